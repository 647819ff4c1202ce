section
-- ===== PART A: goes FIRST, ahead of the names: the tables' words, and 'selects' of the private methods out of them =====
/-- a private method of a class that the tables say can be made, by its rows of tables_1 -/
def lw_okq (q : MethodName × Nat) : Prop := (q.1.cls ≠ "java/lang/invoke/MethodHandle" ∧ q.1.cls ≠ "java/lang/invoke/VarHandle") ∧ Cond.instantiable q.1.cls q.2 ∈ tables_1 ∧ Cond.privateMethod q.1 ∈ tables_1 ∧ Cond.instanceMethod q.1 ∈ tables_1
theorem lw_p0 : lw_okq (⟨"CardMerger", "tallyPairs", "()I"⟩, 4) := ⟨⟨by decide +kernel, by decide +kernel⟩, List.mem_of_getElem? (i := 14) (by decide +kernel), List.mem_of_getElem? (i := 104) (by decide +kernel), List.mem_of_getElem? (i := 105) (by decide +kernel)⟩
theorem lw_p1 : lw_okq (⟨"CardMerger", "suggestedScore", "(II)I"⟩, 4) := ⟨⟨by decide +kernel, by decide +kernel⟩, List.mem_of_getElem? (i := 14) (by decide +kernel), List.mem_of_getElem? (i := 108) (by decide +kernel), List.mem_of_getElem? (i := 109) (by decide +kernel)⟩
theorem lw_p2 : lw_okq (⟨"CardMerger", "scoreOf", "(II)I"⟩, 4) := ⟨⟨by decide +kernel, by decide +kernel⟩, List.mem_of_getElem? (i := 14) (by decide +kernel), List.mem_of_getElem? (i := 123) (by decide +kernel), List.mem_of_getElem? (i := 124) (by decide +kernel)⟩
theorem lw_p3 : lw_okq (⟨"CardMerger", "checkBook", "(I)V"⟩, 4) := ⟨⟨by decide +kernel, by decide +kernel⟩, List.mem_of_getElem? (i := 14) (by decide +kernel), List.mem_of_getElem? (i := 160) (by decide +kernel), List.mem_of_getElem? (i := 161) (by decide +kernel)⟩
theorem lw_p4 : lw_okq (⟨"java/lang/Throwable", "fillInStackTrace", "(I)Ljava/lang/Throwable;"⟩, 6) := ⟨⟨by decide +kernel, by decide +kernel⟩, List.mem_of_getElem? (i := 202) (by decide +kernel), List.mem_of_getElem? (i := 200) (by decide +kernel), List.mem_of_getElem? (i := 201) (by decide +kernel)⟩
theorem lw_p5 : lw_okq (⟨"CardMerger", "checkCard", "(I)V"⟩, 4) := ⟨⟨by decide +kernel, by decide +kernel⟩, List.mem_of_getElem? (i := 14) (by decide +kernel), List.mem_of_getElem? (i := 281) (by decide +kernel), List.mem_of_getElem? (i := 282) (by decide +kernel)⟩
theorem lw_p6 : lw_okq (⟨"CardMerger", "checkTwoCards", "(II)V"⟩, 4) := ⟨⟨by decide +kernel, by decide +kernel⟩, List.mem_of_getElem? (i := 14) (by decide +kernel), List.mem_of_getElem? (i := 397) (by decide +kernel), List.mem_of_getElem? (i := 398) (by decide +kernel)⟩
theorem lw_p7 : lw_okq (⟨"CardMerger$Links", "putGroup", "(I)V"⟩, 2) := ⟨⟨by decide +kernel, by decide +kernel⟩, List.mem_of_getElem? (i := 48) (by decide +kernel), List.mem_of_getElem? (i := 410) (by decide +kernel), List.mem_of_getElem? (i := 411) (by decide +kernel)⟩
theorem lw_p8 : lw_okq (⟨"CardMerger$Links", "reachedFrom", "(I)I"⟩, 2) := ⟨⟨by decide +kernel, by decide +kernel⟩, List.mem_of_getElem? (i := 48) (by decide +kernel), List.mem_of_getElem? (i := 431) (by decide +kernel), List.mem_of_getElem? (i := 432) (by decide +kernel)⟩
theorem lw_p9 : lw_okq (⟨"CardMerger$Links", "linkedToAny", "(I)I"⟩, 2) := ⟨⟨by decide +kernel, by decide +kernel⟩, List.mem_of_getElem? (i := 48) (by decide +kernel), List.mem_of_getElem? (i := 435) (by decide +kernel), List.mem_of_getElem? (i := 436) (by decide +kernel)⟩
theorem lw_p10 : lw_okq (⟨"CardMerger$Cards", "isAhead", "(II)Z"⟩, 5) := ⟨⟨by decide +kernel, by decide +kernel⟩, List.mem_of_getElem? (i := 22) (by decide +kernel), List.mem_of_getElem? (i := 457) (by decide +kernel), List.mem_of_getElem? (i := 458) (by decide +kernel)⟩
theorem lw_p11 : lw_okq (⟨"CardMerger", "takeOutOfMine", "(III)I"⟩, 4) := ⟨⟨by decide +kernel, by decide +kernel⟩, List.mem_of_getElem? (i := 14) (by decide +kernel), List.mem_of_getElem? (i := 479) (by decide +kernel), List.mem_of_getElem? (i := 480) (by decide +kernel)⟩
theorem lw_p12 : lw_okq (⟨"CardMerger", "pairOfScore", "(II)I"⟩, 4) := ⟨⟨by decide +kernel, by decide +kernel⟩, List.mem_of_getElem? (i := 14) (by decide +kernel), List.mem_of_getElem? (i := 498) (by decide +kernel), List.mem_of_getElem? (i := 499) (by decide +kernel)⟩
theorem lw_p13 : lw_okq (⟨"CardMergerModel", "isFine", "(I)Z"⟩, 9) := ⟨⟨by decide +kernel, by decide +kernel⟩, List.mem_of_getElem? (i := 518) (by decide +kernel), List.mem_of_getElem? (i := 566) (by decide +kernel), List.mem_of_getElem? (i := 567) (by decide +kernel)⟩
theorem lw_p14 : lw_okq (⟨"CardMergerModel", "isCard", "(I)Z"⟩, 9) := ⟨⟨by decide +kernel, by decide +kernel⟩, List.mem_of_getElem? (i := 518) (by decide +kernel), List.mem_of_getElem? (i := 577) (by decide +kernel), List.mem_of_getElem? (i := 578) (by decide +kernel)⟩
theorem lw_p15 : lw_okq (⟨"CardMergerModel", "sets", "(IIII)V"⟩, 9) := ⟨⟨by decide +kernel, by decide +kernel⟩, List.mem_of_getElem? (i := 518) (by decide +kernel), List.mem_of_getElem? (i := 584) (by decide +kernel), List.mem_of_getElem? (i := 585) (by decide +kernel)⟩
def lw_privs_1 : List (MethodName × Nat) := [(⟨"CardMerger", "tallyPairs", "()I"⟩, 4), (⟨"CardMerger", "suggestedScore", "(II)I"⟩, 4), (⟨"CardMerger", "scoreOf", "(II)I"⟩, 4), (⟨"CardMerger", "checkBook", "(I)V"⟩, 4), (⟨"java/lang/Throwable", "fillInStackTrace", "(I)Ljava/lang/Throwable;"⟩, 6), (⟨"CardMerger", "checkCard", "(I)V"⟩, 4), (⟨"CardMerger", "checkTwoCards", "(II)V"⟩, 4), (⟨"CardMerger$Links", "putGroup", "(I)V"⟩, 2), (⟨"CardMerger$Links", "reachedFrom", "(I)I"⟩, 2), (⟨"CardMerger$Links", "linkedToAny", "(I)I"⟩, 2), (⟨"CardMerger$Cards", "isAhead", "(II)Z"⟩, 5), (⟨"CardMerger", "takeOutOfMine", "(III)I"⟩, 4), (⟨"CardMerger", "pairOfScore", "(II)I"⟩, 4), (⟨"CardMergerModel", "isFine", "(I)Z"⟩, 9), (⟨"CardMergerModel", "isCard", "(I)Z"⟩, 9), (⟨"CardMergerModel", "sets", "(IIII)V"⟩, 9)]
theorem lw_r1 : ∀ q ∈ lw_privs_1, lw_okq q := List.forall_mem_cons.mpr ⟨lw_p0, List.forall_mem_cons.mpr ⟨lw_p1, List.forall_mem_cons.mpr ⟨lw_p2, List.forall_mem_cons.mpr ⟨lw_p3, List.forall_mem_cons.mpr ⟨lw_p4, List.forall_mem_cons.mpr ⟨lw_p5, List.forall_mem_cons.mpr ⟨lw_p6, List.forall_mem_cons.mpr ⟨lw_p7, List.forall_mem_cons.mpr ⟨lw_p8, List.forall_mem_cons.mpr ⟨lw_p9, List.forall_mem_cons.mpr ⟨lw_p10, List.forall_mem_cons.mpr ⟨lw_p11, List.forall_mem_cons.mpr ⟨lw_p12, List.forall_mem_cons.mpr ⟨lw_p13, List.forall_mem_cons.mpr ⟨lw_p14, List.forall_mem_cons.mpr ⟨lw_p15, fun _ h => absurd h List.not_mem_nil⟩⟩⟩⟩⟩⟩⟩⟩⟩⟩⟩⟩⟩⟩⟩⟩
theorem lw_p16 : lw_okq (⟨"CardMergerModel", "changes", "(I)V"⟩, 9) := ⟨⟨by decide +kernel, by decide +kernel⟩, List.mem_of_getElem? (i := 518) (by decide +kernel), List.mem_of_getElem? (i := 588) (by decide +kernel), List.mem_of_getElem? (i := 589) (by decide +kernel)⟩
theorem lw_p17 : lw_okq (⟨"CardMergerModel", "names", "(III)V"⟩, 9) := ⟨⟨by decide +kernel, by decide +kernel⟩, List.mem_of_getElem? (i := 518) (by decide +kernel), List.mem_of_getElem? (i := 599) (by decide +kernel), List.mem_of_getElem? (i := 600) (by decide +kernel)⟩
theorem lw_p18 : lw_okq (⟨"CardMergerModel", "clashes", "(I)Z"⟩, 9) := ⟨⟨by decide +kernel, by decide +kernel⟩, List.mem_of_getElem? (i := 518) (by decide +kernel), List.mem_of_getElem? (i := 607) (by decide +kernel), List.mem_of_getElem? (i := 608) (by decide +kernel)⟩
theorem lw_p19 : lw_okq (⟨"CardMergerModel", "mergedOf", "(II)I"⟩, 9) := ⟨⟨by decide +kernel, by decide +kernel⟩, List.mem_of_getElem? (i := 518) (by decide +kernel), List.mem_of_getElem? (i := 611) (by decide +kernel), List.mem_of_getElem? (i := 612) (by decide +kernel)⟩
theorem lw_p20 : lw_okq (⟨"CardMergerModel", "mergedName", "(I)I"⟩, 9) := ⟨⟨by decide +kernel, by decide +kernel⟩, List.mem_of_getElem? (i := 518) (by decide +kernel), List.mem_of_getElem? (i := 615) (by decide +kernel), List.mem_of_getElem? (i := 616) (by decide +kernel)⟩
theorem lw_p21 : lw_okq (⟨"CardMergerModel", "groupOf", "(I)I"⟩, 9) := ⟨⟨by decide +kernel, by decide +kernel⟩, List.mem_of_getElem? (i := 518) (by decide +kernel), List.mem_of_getElem? (i := 647) (by decide +kernel), List.mem_of_getElem? (i := 648) (by decide +kernel)⟩
theorem lw_p22 : lw_okq (⟨"CardMergerModel", "preferredOf", "(I)I"⟩, 9) := ⟨⟨by decide +kernel, by decide +kernel⟩, List.mem_of_getElem? (i := 518) (by decide +kernel), List.mem_of_getElem? (i := 670) (by decide +kernel), List.mem_of_getElem? (i := 671) (by decide +kernel)⟩
theorem lw_p23 : lw_okq (⟨"CardMergerModel", "shownOf", "(II)I"⟩, 9) := ⟨⟨by decide +kernel, by decide +kernel⟩, List.mem_of_getElem? (i := 518) (by decide +kernel), List.mem_of_getElem? (i := 678) (by decide +kernel), List.mem_of_getElem? (i := 679) (by decide +kernel)⟩
theorem lw_p24 : lw_okq (⟨"CardMergerModel", "scoreOf", "(II)I"⟩, 9) := ⟨⟨by decide +kernel, by decide +kernel⟩, List.mem_of_getElem? (i := 518) (by decide +kernel), List.mem_of_getElem? (i := 690) (by decide +kernel), List.mem_of_getElem? (i := 691) (by decide +kernel)⟩
theorem lw_p25 : lw_okq (⟨"CardMergerModel", "alike", "(II)I"⟩, 9) := ⟨⟨by decide +kernel, by decide +kernel⟩, List.mem_of_getElem? (i := 518) (by decide +kernel), List.mem_of_getElem? (i := 694) (by decide +kernel), List.mem_of_getElem? (i := 695) (by decide +kernel)⟩
theorem lw_p26 : lw_okq (⟨"CardMergerModel", "finds", "()I"⟩, 9) := ⟨⟨by decide +kernel, by decide +kernel⟩, List.mem_of_getElem? (i := 518) (by decide +kernel), List.mem_of_getElem? (i := 702) (by decide +kernel), List.mem_of_getElem? (i := 703) (by decide +kernel)⟩
theorem lw_p27 : lw_okq (⟨"CardMergerModel", "isSuggested", "(II)Z"⟩, 9) := ⟨⟨by decide +kernel, by decide +kernel⟩, List.mem_of_getElem? (i := 518) (by decide +kernel), List.mem_of_getElem? (i := 714) (by decide +kernel), List.mem_of_getElem? (i := 715) (by decide +kernel)⟩
def lw_privs_2 : List (MethodName × Nat) := [(⟨"CardMergerModel", "changes", "(I)V"⟩, 9), (⟨"CardMergerModel", "names", "(III)V"⟩, 9), (⟨"CardMergerModel", "clashes", "(I)Z"⟩, 9), (⟨"CardMergerModel", "mergedOf", "(II)I"⟩, 9), (⟨"CardMergerModel", "mergedName", "(I)I"⟩, 9), (⟨"CardMergerModel", "groupOf", "(I)I"⟩, 9), (⟨"CardMergerModel", "preferredOf", "(I)I"⟩, 9), (⟨"CardMergerModel", "shownOf", "(II)I"⟩, 9), (⟨"CardMergerModel", "scoreOf", "(II)I"⟩, 9), (⟨"CardMergerModel", "alike", "(II)I"⟩, 9), (⟨"CardMergerModel", "finds", "()I"⟩, 9), (⟨"CardMergerModel", "isSuggested", "(II)Z"⟩, 9)]
theorem lw_r2 : ∀ q ∈ lw_privs_2, lw_okq q := List.forall_mem_cons.mpr ⟨lw_p16, List.forall_mem_cons.mpr ⟨lw_p17, List.forall_mem_cons.mpr ⟨lw_p18, List.forall_mem_cons.mpr ⟨lw_p19, List.forall_mem_cons.mpr ⟨lw_p20, List.forall_mem_cons.mpr ⟨lw_p21, List.forall_mem_cons.mpr ⟨lw_p22, List.forall_mem_cons.mpr ⟨lw_p23, List.forall_mem_cons.mpr ⟨lw_p24, List.forall_mem_cons.mpr ⟨lw_p25, List.forall_mem_cons.mpr ⟨lw_p26, List.forall_mem_cons.mpr ⟨lw_p27, fun _ h => absurd h List.not_mem_nil⟩⟩⟩⟩⟩⟩⟩⟩⟩⟩⟩⟩
def lw_privs : List (MethodName × Nat) := lw_privs_1 ++ (lw_privs_2)
def lw_tbl : List Cond := k2_sels lw_privs ++ tables_1
theorem lw_privs_ok : ∀ q ∈ lw_privs, lw_okq q := by
  show ∀ q ∈ lw_privs_1 ++ (lw_privs_2), lw_okq q
  exact List.forall_mem_append.mpr ⟨lw_r1, lw_r2⟩

/-! ===== BEGIN words of one list among another's, by their places ===== -/
theorem goodIn_r {big : List Cond} (ws : List Cond) (ps : List Nat) (hp : ws = ps.filterMap (fun i => big[i]?)) (h : ws.all goodWord = true) : GoodIn big ws := by
  intro w hw
  have h1 := List.all_eq_true.mp h w hw
  rw [hp] at hw
  obtain ⟨i, -, hi⟩ := List.mem_filterMap.mp hw
  have hm : w ∈ big := by first | exact List.mem_of_getElem? hi | exact List.getElem?_mem hi
  exact ⟨hm, good_of_word h1⟩
theorem goodIn_app {big a b : List Cond} (ha : GoodIn big a) (hb : GoodIn big b) : GoodIn big (a ++ b) := fun w h => (List.mem_append.mp h).elim (ha w) (hb w)
theorem goodIn_ca {big a b : List Cond} {c : Cond} (ha : GoodIn big (c :: a)) (hb : GoodIn big b) : GoodIn big (c :: (a ++ b)) := fun w h => (List.mem_cons.mp h).elim (fun e => ha w (List.mem_cons.mpr (Or.inl e))) (fun h => (List.mem_append.mp h).elim (fun h => ha w (List.mem_cons.mpr (Or.inr h))) (hb w))
theorem goodIn_sub {big ws : List Cond} (hm : ∀ w ∈ ws, w ∈ big) (h : ws.all goodWord = true) : GoodIn big ws := fun w hw => ⟨hm w hw, good_of_word (List.all_eq_true.mp h w hw)⟩
/-! ===== END ===== -/

/-! ===== BEGIN exceptions that leave a method, and their catching by the caller (launches without stack traces) ===== -/
section VXA
/-! The laws vx_back, vx_callV, vx_callS, vx_callSW, vx_throw0, vx_throwS follow proofs of the library, with one case more: JvmDerived/Free/Laws.lean (Back.of_free), Shelf42/LK1.lean (callV, callS), Shelf/KitTraced.lean (throwNew0V, throwNewS). -/
/-- where a method has thrown q: the class by its name, the cell, what was written, the world -/
def vx_T (XC : String → State → State → Prop) (st : State) (q : Addr) (t : State) (mc ms : Nat) (free : Addr → Prop) : Prop :=
  ∃ (E : String) (ce : Cell) (L : List Loc), XC E st t ∧ t.heap[q]? = some ce ∧ ce.vm = .none ∧ st.vm.findClass E = some ce.cls ∧ st.WarmedH t.vm ∧ st.sameButNew ({ t with vm := st.vm } : State) L mc ms ∧ ∀ z ∈ L, free z.base
def vx_Q (Qc : Array Value → State → Outcome → State → Prop) (XC : String → State → State → Prop) (mc ms : Nat) (free : Addr → Prop) : Array Value → State → Outcome → State → Prop := fun a st o t =>
  (Qc a st o t ∧ ∃ L, FrameEnd st o t L mc ms ∧ ∀ q ∈ L, free q.base) ∨ ∃ q, o = .threw q ∧ vx_T XC st q t mc ms free
/-- a callee that returns or throws -/
def vx_Met (l : Launch) (y : MethodName) (ws : List Cond) (rm : Room) (Pc : Array Value → State → Prop) (Qc : Array Value → State → Outcome → State → Prop) (XC : String → State → State → Prop) (mc ms : Nat) (free : Addr → Prop) : Prop :=
  MetFree l y (headSpec ws rm) Pc (fun _ _ _ _ _ => True) (vx_Q Qc XC mc ms free)
def vx_Post (XC : String → State → State → Prop) (mc ms : Nat) (free : Addr → Prop) : Pt → Array Value → Addr → Pt → Prop := fun A a q B =>
  ∃ (g : JFrame) (mk : MethodId) (t : State) (L : List Loc) (E : String) (ce : Cell), B.U.heap = t.heap ∧ B.U.vm = t.vm ∧ XC E (A.U.calling g mk a) t ∧ t.heap[q]? = some ce ∧ ce.vm = .none ∧ A.U.vm.findClass E = some ce.cls ∧ B.locs = A.locs ++ L ∧ (∀ z ∈ L, free z.base) ∧ B.cells = A.cells + mc ∧ B.slots = A.slots + ms
def vx_Back (l : Launch) (R : Room) (p : Program) (e : Env) (below : List Frame) (s : State) (sargs : Array Value) (y : MethodName) (len W9 : Nat)
    (Pre : Pt → Array Value → Prop) (Post : Pt → Array Value → Option Value → Pt → Prop) (PostX : Pt → Array Value → Addr → Pt → Prop) : Prop :=
  ∀ (m : MethodId) (meth : Method) (c : Code) (A : Pt) (g : JFrame) (ig : Instr) (mk : MethodId) (a : Array Value),
    Stand p l e R s m sargs below meth c A.U A.locs A.cells A.slots → g.method = m → g.locals.size = c.maxLocals → decode c.code g.pc = .ok (ig, len) →
    2 * g.monitorRoom + (g.stack.map fun v => v.category).sum ≤ W9 → A.U.methodNamed? y = some mk → Pre A a →
    (∃ (v : Option Value) (B : Pt), Stand p l e R s m sargs below meth c B.U B.locs B.cells B.slots ∧ Post A a v B ∧
      Steps p.tables e below (doInvoke e (A.U.setTop g) [] mk a).1 (B.U.setTop { g with pc := g.pc + len, stack := v.toList ++ g.stack })) ∨
    (∃ (q : Addr) (B : Pt), Stand p l e R s m sargs below meth c B.U B.locs B.cells B.slots ∧ PostX A a q B ∧
      Steps p.tables e below (doInvoke e (A.U.setTop g) [] mk a).1 ((B.U.setTop g).pushFrame (.throwing q)))
section Payer
variable {l : Launch} {R : Room} {p : Program} {e : Env} {below : List Frame} {s : State} {sargs : Array Value} {y : MethodName} {len W9 : Nat}
theorem vx_back {ws : List Cond} {rm : Room} {Pc : Array Value → State → Prop} {Qc : Array Value → State → Outcome → State → Prop} {XC : String → State → State → Prop} {mc ms : Nat} {free : Addr → Prop} {bytes : ByteArray} {maxL : Nat} {ret : Option FieldType}
    (hM : vx_Met l y ws rm Pc Qc XC mc ms free) (hblind : FrameBlind Pc) (hrc : rm.cells = mc) (hrs : rm.slots = ms)
    (hframes : rm.frames + 1 ≤ R.frames) (hlocals : W9 + (maxL + 11) + rm.locals ≤ R.locals)
    (hws : ∀ w ∈ ws, ∀ a' U, s.WarmedH U.vm → w.before a' U = true) (hcode : Cond.code y bytes maxL ret ∈ ws) (hinit : ∀ a' U, s.WarmedH U.vm → (Cond.initialized y.cls).before a' U = true) :
    vx_Back l R p e below s sargs y len W9 (PreOf R mc ms Pc) (PostOf Qc mc ms free) (vx_Post XC mc ms free) := by
  intro m meth c A g ig mk a X hg hsize hdg hW hn hp
  have h1 : (headSpec ws rm).pre.before a A.U = true := atoms_intro fun w hw => hws w hw _ _ X.warmed
  have h2 : (Cond.code y bytes maxL ret).before a A.U = true := hws _ hcode _ _ X.warmed
  have h3 : (Cond.initialized y.cls).before a A.U = true := hinit _ _ X.warmed
  have h4 : A.cells + (headSpec ws rm).room.cells ≤ R.cells := by rw [show (headSpec ws rm).room.cells = mc from hrc]; exact hp.1
  have h5 : A.slots + (headSpec ws rm).room.slots ≤ R.slots := by rw [show (headSpec ws rm).room.slots = ms from hrs]; exact hp.2.1
  have hPc : Pc a (A.U.calling g mk a) := hblind _ _ _ _ hp.2.2
  obtain ⟨U, Ls, c0, s0⟩ := A
  dsimp only [Pt.U, Pt.locs, Pt.cells, Pt.slots] at h1 h2 h3 h4 h5 X hn hPc ⊢
  obtain ⟨methY, cY, hmY, hcY, -, hlY, -, -, -, -⟩ := Cond.code_spec hn h2
  obtain ⟨kY, hkY, -⟩ := className_of_methodNamed hn
  have hinitY : kY.init = .initialized := Cond.initialized_spec (findClass_of_methodNamed hn) hkY h3
  have h : At U g.method c below := by rw [hg]; exact X.here
  have hlocals9 : W9 + (maxL + 11) + (headSpec ws rm).room.locals ≤ R.locals := hlocals
  have happ : (headSpec ws rm).appliesLoose y e.platform (U.calling g mk a) = true :=
    Spec.appliesLoose_calling (g := g) h hdg hn hkY hinitY
      (X.room_calling (g := g) (R' := (headSpec ws rm).room) hsize hmY hcY hframes (by rw [hlY]; omega) h4 h5) h1
  obtain ⟨mid, hmid⟩ := h.above
  have hfr : (U.setTop g).frames = (.java g :: mid) ++ below := by rw [State.frames_setTop' g h.top, hmid]; rfl
  obtain ⟨o, s₂, hsteps, -, hend, hq⟩ := Steps.callFree hM p X.admits X.cas X.clock (acts := []) hfr happ hPc trivial
  have hq' : vx_Q Qc XC mc ms free a (U.calling g mk a) o s₂ := hq
  rw [State.frames_setTop' g h.top] at hend
  obtain ⟨g₀, hg0⟩ := Option.isSome_iff_exists.mp h.top
  obtain ⟨r, hr⟩ := State.topJava?_eq_some.mp hg0
  have hr' : (({ U with heap := s₂.heap, slotsUsed := s₂.slotsUsed } : State).setVm s₂.vm).frames = .java g₀ :: r := hr
  rcases hq' with ⟨hqc, L, hfe, hL⟩ | ⟨q, rfl, E, ce, L, hx, hce, hcv, hcl, hW₂, hsm, hL⟩
  · obtain ⟨⟨v, rfl⟩, hW₂, e2, q2, q3, q4, q5, q6⟩ := id hfe
    have e3 : s₂ = ({ (U.calling g mk a).setFrames s₂.frames with heap := s₂.heap, slotsUsed := s₂.slotsUsed } : State).setVm s₂.vm := by
      have : s₂ = ({ s₂ with vm := (U.calling g mk a).vm } : State).setVm s₂.vm := rfl
      rw [e2] at this
      exact this
    obtain ⟨c₂, i₂, len₂, hc₂, hd₂, hf₂⟩ := hend
    have hW' : U.WarmedH s₂.vm := hW₂
    have hcc : c₂ = c := by
      have h1 : s₂.code? g.method = U.code? g.method := by
        rw [State.code?_eq, State.code?_eq, hW'.alike.method?]
      exact Option.some.inj (hc₂.symm.trans (h1.trans h.code))
    subst hcc
    have hlen : len₂ = len := by rw [hdg] at hd₂; cases hd₂; rfl
    subst hlen
    have hs₂ : s₂ = (({ U with heap := s₂.heap, slotsUsed := s₂.slotsUsed } : State).setVm s₂.vm).setTop { g with pc := g.pc + len₂, stack := v.toList ++ g.stack } := by
      refine e3.trans ?_
      rw [hf₂, State.calling_eq h.top, State.setFrames_setFrames, State.setTop_of_frames _ hr', hr]
      rfl
    have hsame : U.sameButNew ({ U with heap := s₂.heap, slotsUsed := s₂.slotsUsed } : State) L mc ms := by
      refine ⟨?_, q2, q3, q4, q5, q6⟩
      obtain ⟨t, ht, -⟩ := State.frames_cons hr
      show ({ U with heap := s₂.heap, slotsUsed := s₂.slotsUsed } : State) = { U.setFrames U.frames with heap := s₂.heap, slotsUsed := s₂.slotsUsed }
      rw [State.setFrames_self ht]
    subst hg
    refine Or.inl ⟨v, ⟨(({ U with heap := s₂.heap, slotsUsed := s₂.slotsUsed } : State).setVm s₂.vm), Ls ++ L, c0 + mc, s0 + ms⟩,
      ⟨X.admits, X.cas, X.clock, X.frames, X.room, X.hears, X.method, X.code, (X.here.setHeapUsed s₂.heap s₂.slotsUsed).setVm hW'.alike, X.tail, State.WarmedH.trans X.warmed hW', X.limits, X.bytes, X.same.trans (hsame.setVm s.vm)⟩,
      ⟨g, mk, s₂, L, rfl, rfl, hqc, rfl, hL, rfl, rfl⟩, ?_⟩
    show Steps p.tables e below _ ((({ U with heap := s₂.heap, slotsUsed := s₂.slotsUsed } : State).setVm s₂.vm).setTop { g with pc := g.pc + len₂, stack := v.toList ++ g.stack })
    rw [← hs₂]
    exact hsteps
  · obtain ⟨e2, q2, q3, q4, q5, q6⟩ := id hsm
    have e3 : s₂ = ({ (U.calling g mk a).setFrames s₂.frames with heap := s₂.heap, slotsUsed := s₂.slotsUsed } : State).setVm s₂.vm := by
      have : s₂ = ({ s₂ with vm := (U.calling g mk a).vm } : State).setVm s₂.vm := rfl
      rw [e2] at this
      exact this
    have hf₂ : s₂.frames = .throwing q :: .java g :: U.frames.tail := hend
    have hW' : U.WarmedH s₂.vm := hW₂
    have hs₂ : s₂ = ((({ U with heap := s₂.heap, slotsUsed := s₂.slotsUsed } : State).setVm s₂.vm).setTop g).pushFrame (.throwing q) := by
      refine e3.trans ?_
      rw [hf₂, State.calling_eq h.top, State.setFrames_setFrames, State.pushFrame, State.frames_setTop _ hr', State.setTop_of_frames _ hr', State.setFrames_setFrames, hr]
      rfl
    have hsame : U.sameButNew ({ U with heap := s₂.heap, slotsUsed := s₂.slotsUsed } : State) L mc ms := by
      refine ⟨?_, q2, q3, q4, q5, q6⟩
      obtain ⟨t, ht, -⟩ := State.frames_cons hr
      show ({ U with heap := s₂.heap, slotsUsed := s₂.slotsUsed } : State) = { U.setFrames U.frames with heap := s₂.heap, slotsUsed := s₂.slotsUsed }
      rw [State.setFrames_self ht]
    subst hg
    refine Or.inr ⟨q, ⟨(({ U with heap := s₂.heap, slotsUsed := s₂.slotsUsed } : State).setVm s₂.vm), Ls ++ L, c0 + mc, s0 + ms⟩,
      ⟨X.admits, X.cas, X.clock, X.frames, X.room, X.hears, X.method, X.code, (X.here.setHeapUsed s₂.heap s₂.slotsUsed).setVm hW'.alike, X.tail, State.WarmedH.trans X.warmed hW', X.limits, X.bytes, X.same.trans (hsame.setVm s.vm)⟩,
      ⟨g, mk, s₂, L, E, ce, rfl, rfl, hx, hce, hcv, hcl, rfl, hL, rfl, rfl⟩, ?_⟩
    show Steps p.tables e below _ (((({ U with heap := s₂.heap, slotsUsed := s₂.slotsUsed } : State).setVm s₂.vm).setTop g).pushFrame (.throwing q))
    rw [← hs₂]
    exact hsteps
end Payer
section Calls
variable {p : Program} {l : Launch} {e : Env} {R : Room} {s : State} {m : MethodId} {args : Array Value} {below : List Frame} {meth : Method} {c : Code} {T : State} {locs : List Loc} {cells slots : Nat}
theorem vx_callV (X : Stand p l e R s m args below meth c T locs cells slots) (hexec : p.tables.exec = Jvm.exec) {own C : String} {index : Nat} {y : MethodName} {bytes : ByteArray} {maxL : Nat} {ret : Option FieldType}
    (hown : s.vm.findClass own = some m.cls) (hlink : (Cond.methodLink own index y).before args s = true) (hinst : (Cond.instanceMethod y).before args s = true) (hsel : (Cond.selects C y y).before args s = true)
    (hcode : (Cond.code y bytes maxL ret).before args s = true) (hy : y.cls ≠ "java/lang/invoke/MethodHandle" ∧ y.cls ≠ "java/lang/invoke/VarHandle")
    {W9 : Nat} {Pre : Pt → Array Value → Prop} {Post : Pt → Array Value → Option Value → Pt → Prop} {PostX : Pt → Array Value → Addr → Pt → Prop} (hK : vx_Back l R p e below s args y 3 W9 Pre Post PostX)
    {b : Addr} {cellB : Cell} (hcell : T.heap[b]? = some cellB) (hobj : cellB.vm.isStatics = false) (hcls : s.vm.findClass C = some cellB.cls)
    {g : JFrame} (hg : g.method = m) (hsize : g.locals.size = c.maxLocals) {argsL rest : List Value} (hlen : ∀ sig, parseMethodDescriptor y.desc = some sig → argsL.length = sig.parameters.length)
    (hstack : g.stack = argsL.reverse ++ .ref b :: rest) (hW : 2 * g.monitorRoom + (rest.map fun v => v.category).sum ≤ W9) (hdg : decode c.code g.pc = .ok (.invokevirtual index, 3))
    (hpre : ∀ vm₁, s.WarmedH vm₁ → Pre ⟨T.setVm vm₁, locs, cells, slots⟩ (Value.ref b :: argsL).toArray) :
    (∃ (v : Option Value) (vm₁ : Vm) (B : Pt), s.WarmedH vm₁ ∧ Stand p l e R s m args below meth c B.U B.locs B.cells B.slots ∧ Post ⟨T.setVm vm₁, locs, cells, slots⟩ (Value.ref b :: argsL).toArray v B ∧
      ∀ target, Steps p.tables e below (B.U.setTop { g with pc := g.pc + 3, stack := v.toList ++ rest }) target → Steps p.tables e below (T.setTop g) target) ∨
    (∃ (q : Addr) (vm₁ : Vm) (B : Pt), s.WarmedH vm₁ ∧ Stand p l e R s m args below meth c B.U B.locs B.cells B.slots ∧ PostX ⟨T.setVm vm₁, locs, cells, slots⟩ (Value.ref b :: argsL).toArray q B ∧
      Steps p.tables e below (T.setTop g) ((B.U.setTop { g with stack := rest }).pushFrame (.throwing q))) := by
  obtain ⟨mk, methM, hnamed, hmethM, hstM, habM⟩ := Cond.instanceMethod_spec hinst
  obtain ⟨methM', cM, hmethM', -, -, -, -, -, -, hsigM⟩ := Cond.code_spec hnamed hcode
  cases hmethM.symm.trans hmethM'
  obtain ⟨c2, r2, m2, q1, q2, q3, q4, kP, hkP, hkPi⟩ := Cond.selects_spec hsel
  cases hcls.symm.trans q1
  cases (State.methodFound?_of_named hnamed hy).symm.trans q2
  cases hnamed.symm.trans q3
  have hselP : selectMethod e.platform s.vm cellB.cls mk = .method mk := by rw [Launch.admits_selectMethod X.admits]; exact q4
  obtain ⟨vm₁, X₁, hstep₁⟩ := X.invokevirtual hexec hown hlink hnamed hmethM hstM hkP hkPi hy (a := b) (cell := cellB) hcell
    (fun z h => by rw [h] at hobj; cases hobj) hselP hmethM habM hkP hkPi (g := g) hg (argsL := argsL) (rest := rest) (hlen _ hsigM) hstack hdg
  rcases hK m meth c ⟨T.setVm vm₁, locs, cells, slots⟩ { g with stack := rest } (.invokevirtual index) mk (Value.ref b :: argsL).toArray X₁ hg hsize hdg hW (X₁.named hnamed) (hpre vm₁ X₁.warmed) with ⟨v, B, X', hpost, hsteps⟩ | ⟨q, B, X', hpost, hsteps⟩
  · exact Or.inl ⟨v, vm₁, B, X₁.warmed, X', hpost, fun target h => hstep₁ _ fun acts => by rw [doInvoke_state]; exact hsteps.trans h⟩
  · exact Or.inr ⟨q, vm₁, B, X₁.warmed, X', hpost, hstep₁ _ fun acts => by rw [doInvoke_state]; exact hsteps⟩
theorem vx_callS (X : Stand p l e R s m args below meth c T locs cells slots) (hexec : p.tables.exec = Jvm.exec) {own : String} {index : Nat} {y : MethodName} {bytes : ByteArray} {maxL : Nat} {ret : Option FieldType}
    (hown : s.vm.findClass own = some m.cls) (hlink : (Cond.methodLink own index y).before args s = true) (hstat : (Cond.static y).before args s = true) (hinit : (Cond.initialized y.cls).before args s = true)
    (hcode : (Cond.code y bytes maxL ret).before args s = true) (hy : y.cls ≠ "java/lang/invoke/MethodHandle" ∧ y.cls ≠ "java/lang/invoke/VarHandle")
    {W9 : Nat} {Pre : Pt → Array Value → Prop} {Post : Pt → Array Value → Option Value → Pt → Prop} {PostX : Pt → Array Value → Addr → Pt → Prop} (hK : vx_Back l R p e below s args y 3 W9 Pre Post PostX)
    {g : JFrame} (hg : g.method = m) (hsize : g.locals.size = c.maxLocals) {argsL rest : List Value} (hlen : ∀ sig, parseMethodDescriptor y.desc = some sig → argsL.length = sig.parameters.length)
    (hstack : g.stack = argsL.reverse ++ rest) (hW : 2 * g.monitorRoom + (rest.map fun v => v.category).sum ≤ W9) (hdg : decode c.code g.pc = .ok (.invokestatic index, 3))
    (hpre : ∀ vm₁, s.WarmedH vm₁ → Pre ⟨T.setVm vm₁, locs, cells, slots⟩ argsL.toArray) :
    (∃ (v : Option Value) (vm₁ : Vm) (B : Pt), s.WarmedH vm₁ ∧ Stand p l e R s m args below meth c B.U B.locs B.cells B.slots ∧ Post ⟨T.setVm vm₁, locs, cells, slots⟩ argsL.toArray v B ∧
      ∀ target, Steps p.tables e below (B.U.setTop { g with pc := g.pc + 3, stack := v.toList ++ rest }) target → Steps p.tables e below (T.setTop g) target) ∨
    (∃ (q : Addr) (vm₁ : Vm) (B : Pt), s.WarmedH vm₁ ∧ Stand p l e R s m args below meth c B.U B.locs B.cells B.slots ∧ PostX ⟨T.setVm vm₁, locs, cells, slots⟩ argsL.toArray q B ∧
      Steps p.tables e below (T.setTop g) ((B.U.setTop { g with stack := rest }).pushFrame (.throwing q))) := by
  obtain ⟨mk, hnamed⟩ := Cond.code_named hcode
  obtain ⟨methM, cM, hmethM, -, -, -, -, -, -, hsigM⟩ := Cond.code_spec hnamed hcode
  have hstatic : methM.isStatic = true := Cond.static_spec hnamed hmethM hstat
  obtain ⟨kP, hkP, -⟩ := className_of_methodNamed hnamed
  have hinitP : kP.init = .initialized := Cond.initialized_spec (findClass_of_methodNamed hnamed) hkP hinit
  obtain ⟨vm₁, X₁, hstep₁⟩ := X.invokestatic hexec hown hlink hnamed hmethM hstatic hkP hinitP hy (g := g) hg (argsL := argsL) (rest := rest) (hlen _ hsigM) hstack hdg
  rcases hK m meth c ⟨T.setVm vm₁, locs, cells, slots⟩ { g with stack := rest } (.invokestatic index) mk argsL.toArray X₁ hg hsize hdg hW (X₁.named hnamed) (hpre vm₁ X₁.warmed) with ⟨v, B, X', hpost, hsteps⟩ | ⟨q, B, X', hpost, hsteps⟩
  · exact Or.inl ⟨v, vm₁, B, X₁.warmed, X', hpost, fun target h => hstep₁ _ fun acts => by rw [doInvoke_state]; exact hsteps.trans h⟩
  · exact Or.inr ⟨q, vm₁, B, X₁.warmed, X', hpost, hstep₁ _ fun acts => by rw [doInvoke_state]; exact hsteps⟩
end Calls
theorem vx_cls {s : State} {T : State} {vm₁ : Vm} {E : String} {k : ClassId} (hW : s.WarmedH vm₁) (h : (T.setVm vm₁).vm.findClass E = some k) : s.vm.findClass E = some k := by
  have h1 : vm₁.findClass E = some k := h
  rw [hW.alike.findClass] at h1
  exact h1
/-- the method's frame g, with q thrown over it -/
def vx_W (p : Program) (l : Launch) (e : Env) (R : Room) (s : State) (m : MethodId) (args : Array Value) (below : List Frame) (meth : Method) (c : Code) (H : Heap) (locs : List Loc) (cells slots : Nat) (Q : State → Prop) (g : JFrame) (q : Addr) : Prop :=
  ∀ T : State, T.heap = H → Stand p l e R s m args below meth c T locs cells slots → ∃ t, Steps p.tables e below ((T.setTop g).pushFrame (.throwing q)) t ∧ Q t
def vx_Run (p : Program) (l : Launch) (e : Env) (R : Room) (s : State) (m : MethodId) (args : Array Value) (below : List Frame) (meth : Method) (c : Code) (H : Heap) (locs : List Loc) (cells slots mc ms : Nat) (g : JFrame) (rest : List Value) (Qa : State → Outcome → State → Prop) (XC : String → State → State → Prop) (free : Addr → Prop) : Prop :=
  ∀ T : State, T.heap = H → Stand p l e R s m args below meth c T locs cells slots →
    (∃ (v : Option Value) (st₀ t T' : State) (L : List Loc), st₀.heap = H ∧ Stand p l e R s m args below meth c T' (locs ++ L) (cells + mc) (slots + ms) ∧ (∀ q ∈ L, free q.base) ∧ T'.heap = t.heap ∧ T'.vm = t.vm ∧ Qa st₀ (.returned v) t ∧
      Goes p e below T g T' { g with pc := g.pc + 3, stack := v.toList ++ rest }) ∨
    (∃ (q : Addr) (st₀ t T' : State) (L : List Loc) (E : String) (ce : Cell), st₀.heap = H ∧ Stand p l e R s m args below meth c T' (locs ++ L) (cells + mc) (slots + ms) ∧ (∀ z ∈ L, free z.base) ∧ T'.heap = t.heap ∧ T'.vm = t.vm ∧ XC E st₀ t ∧ t.heap[q]? = some ce ∧ ce.vm = .none ∧ s.vm.findClass E = some ce.cls ∧
      Steps p.tables e below (T.setTop g) ((T'.setTop { g with stack := rest }).pushFrame (.throwing q)))
def vx_X {S : Type} (px : S → Prop) (B : String → S → State → Prop) (A : Nat → Prop) : String → State → State → Prop := fun E st t => ∃ u : S, px u ∧ B E u t ∧ va_F A st t
section Runs
variable {p : Program} {l : Launch} {e : Env} {R : Room} {s : State} {m : MethodId} {args : Array Value} {below : List Frame} {meth : Method} {c : Code} {H : Heap} {locs : List Loc} {cells slots : Nat}
variable {y : MethodName} {bytes cc : ByteArray} {maxL nL mc ms n index : Nat} {ret : Option FieldType} {ws : List Cond} {rm : Room} {Pc : Array Value → State → Prop} {Qc : Array Value → State → Outcome → State → Prop} {XC : String → State → State → Prop} {free : Addr → Prop} {Ts : List Cond} {own C : String} {b : Addr} {As rest : List Value} {g : JFrame}
theorem vx_callBack (cb : CallB R s args own index y bytes maxL ret ws rm mc ms n) (hM : vx_Met l y ws rm Pc Qc XC mc ms free) (hbl : FrameBlind Pc) : vx_Back l R p e below s args y 3 8 (PreOf R mc ms Pc) (PostOf Qc mc ms free) (vx_Post XC mc ms free) := by
  obtain ⟨hrc, hrs, hfr, hlo, hws, hcw, -, hini, -⟩ := cb
  exact vx_back (bytes := bytes) (maxL := maxL) (ret := ret) hM hbl hrc hrs hfr hlo hws hcw (fun a' U hW => word_at hW (Or.inl (by first | rfl | simp [Cond.onTables, Cond.keeps, Cond.steady])) hini)
theorem vx_runV (S : CallFix p m c cc nL s args Ts own) (hM : vx_Met l y ws rm Pc Qc XC mc ms free) (cw : CallW R s args own C index y bytes maxL ret ws rm mc ms n) (hp : PreV s H C b Pc As)
    (hg : g.method = m) (hn : As.length = n) (hsize : g.locals.size = nL) (hstack : g.stack = As.reverse ++ .ref b :: rest) (hW : 2 * g.monitorRoom + (rest.map fun v => v.category).sum ≤ 8) (hdg : decode cc g.pc = .ok (.invokevirtual index, 3)) (hf : cells + mc ≤ R.cells ∧ slots + ms ≤ R.slots) :
    vx_Run p l e R s m args below meth c H locs cells slots mc ms g rest (Qc (Value.ref b :: As).toArray) XC free := by
  have hK : vx_Back l R p e below s args y 3 8 (PreOf R mc ms Pc) (PostOf Qc mc ms free) (vx_Post XC mc ms free) := vx_callBack cw.1 hM hp.1
  obtain ⟨⟨-, -, -, -, -, -, hcode, -, hy, hlen, hl⟩, hin, hse⟩ := cw
  obtain ⟨hx, hb, hml, ho, -⟩ := S
  obtain ⟨-, ⟨cellB, hcB, hoB, hclB⟩, hPc⟩ := hp
  intro T hT X
  rcases vx_callV X hx (C := C) (bytes := bytes) (maxL := maxL) (ret := ret) ho hl hin hse hcode hy hK (by rw [hT]; exact hcB) hoB hclB hg (hsize.trans hml.symm) (argsL := As) (rest := rest) (fun sig h => hn.trans (hlen sig h)) hstack hW (by rw [hb]; exact hdg)
    (fun vm₁ hW₁ => ⟨hf.1, hf.2, hPc (T.setVm vm₁) hT hW₁⟩) with ⟨v, vm₁, ⟨U', l2, c2, s2⟩, hW₁, X', ⟨g', mk, t, L, e1, e2, hq, h1, hL, h2, h3⟩, st⟩ | ⟨q, vm₁, ⟨U', l2, c2, s2⟩, hW₁, X', ⟨g', mk, t, L, E, ce, e1, e2, hq, hce, hcv, hcl, h1, hL, h2, h3⟩, st⟩
  · dsimp only [Pt.U, Pt.locs, Pt.cells, Pt.slots] at X' e1 e2 h1 h2 h3 st
    subst h1; subst h2; subst h3
    exact Or.inl ⟨v, (T.setVm vm₁).calling g' mk (Value.ref b :: As).toArray, t, U', L, hT, X', hL, e1, e2, hq, st⟩
  · dsimp only [Pt.U, Pt.locs, Pt.cells, Pt.slots] at X' e1 e2 h1 h2 h3 st hcl
    subst h1; subst h2; subst h3
    exact Or.inr ⟨q, (T.setVm vm₁).calling g' mk (Value.ref b :: As).toArray, t, U', L, E, ce, hT, X', hL, e1, e2, hq, hce, hcv, vx_cls hW₁ hcl, st⟩
theorem vx_runS (S : CallFix p m c cc nL s args Ts own) (hM : vx_Met l y ws rm Pc Qc XC mc ms free) (cw : CallB R s args own index y bytes maxL ret ws rm mc ms n ∧ (Cond.static y).before args s = true) (hp : PreS s H Pc As)
    (hg : g.method = m) (hn : As.length = n) (hsize : g.locals.size = nL) (hstack : g.stack = As.reverse ++ rest) (hW : 2 * g.monitorRoom + (rest.map fun v => v.category).sum ≤ 8) (hdg : decode cc g.pc = .ok (.invokestatic index, 3)) (hf : cells + mc ≤ R.cells ∧ slots + ms ≤ R.slots) :
    vx_Run p l e R s m args below meth c H locs cells slots mc ms g rest (Qc As.toArray) XC free := by
  have hK : vx_Back l R p e below s args y 3 8 (PreOf R mc ms Pc) (PostOf Qc mc ms free) (vx_Post XC mc ms free) := vx_callBack cw.1 hM hp.1
  obtain ⟨⟨-, -, -, -, -, -, hcode, hini, hy, hlen, hl⟩, hstt⟩ := cw
  obtain ⟨hx, hb, hml, ho, -⟩ := S
  intro T hT X
  rcases vx_callS X hx (bytes := bytes) (maxL := maxL) (ret := ret) ho hl hstt hini hcode hy hK hg (hsize.trans hml.symm) (argsL := As) (rest := rest) (fun sig h => hn.trans (hlen sig h)) hstack hW (by rw [hb]; exact hdg)
    (fun vm₁ hW₁ => ⟨hf.1, hf.2, hp.2 (T.setVm vm₁) hT hW₁⟩) with ⟨v, vm₁, ⟨U', l2, c2, s2⟩, hW₁, X', ⟨g', mk, t, L, e1, e2, hq, h1, hL, h2, h3⟩, st⟩ | ⟨q, vm₁, ⟨U', l2, c2, s2⟩, hW₁, X', ⟨g', mk, t, L, E, ce, e1, e2, hq, hce, hcv, hcl, h1, hL, h2, h3⟩, st⟩
  · dsimp only [Pt.U, Pt.locs, Pt.cells, Pt.slots] at X' e1 e2 h1 h2 h3 st
    subst h1; subst h2; subst h3
    exact Or.inl ⟨v, (T.setVm vm₁).calling g' mk As.toArray, t, U', L, hT, X', hL, e1, e2, hq, st⟩
  · dsimp only [Pt.U, Pt.locs, Pt.cells, Pt.slots] at X' e1 e2 h1 h2 h3 st hcl
    subst h1; subst h2; subst h3
    exact Or.inr ⟨q, (T.setVm vm₁).calling g' mk As.toArray, t, U', L, E, ce, hT, X', hL, e1, e2, hq, hce, hcv, vx_cls hW₁ hcl, st⟩
end Runs
section Rows
variable {p : Program} {l : Launch} {e : Env} {R : Room} {s : State} {m : MethodId} {args : Array Value} {below : List Frame} {meth : Method} {c : Code} {H : Heap} {locs : List Loc} {cells slots : Nat} {Q : State → Prop}
variable {mc ms : Nat} {free : Addr → Prop} {A0 A1 : Nat → Prop} {H0 : Heap} {a : Array Value} {pc : Nat} {ls : Array Slot} {st0 rest : List Value}
theorem vx_keep {st₀ t T' : State} {L : List Loc} (h0 : st₀.heap = H) (e1 : T'.heap = t.heap) (hS : va_S A0 H0 H locs) (hA : ∀ q, q < H.size → A1 q → A0 q) (hf : ∀ q, free q → A0 q) (hL : ∀ q ∈ L, free q.base) (hF : va_F A1 st₀ t) :
    H.size ≤ T'.heap.size ∧ (∀ q : Nat, q < H.size → ¬ A1 q → T'.heap[q]? = H[q]?) ∧ va_S A0 H0 T'.heap (locs ++ L) := by
  obtain ⟨hz, hk⟩ := hF
  rw [h0] at hz hk
  exact ⟨by rw [e1]; exact hz, fun q h1 h2 => by rw [e1]; exact hk q h1 h2,
    ⟨Nat.le_trans hS.1 (by rw [e1]; exact hz), fun q h1 h2 => by rw [e1, hk q (Nat.lt_of_lt_of_le h1 hS.1) (fun z => h2 (hA q (Nat.lt_of_lt_of_le h1 hS.1) z))]; exact hS.2.1 q h1 h2, fun q hq => by
      rcases List.mem_append.mp hq with h | h
      · exact hS.2.2 q h
      · exact hf _ (hL q h)⟩⟩
theorem vx_calli {S SX : Type} {post : Int32 → S → Prop} {px : SX → Prop} {B : S → State → Prop} {BX : String → SX → State → Prop} {AX : Nat → Prop} (hr : vx_Run p l e R s m args below meth c H locs cells slots mc ms (F0 m pc ls st0) rest (va_Qi post B A1 a) (vx_X px BX AX) free) (hS : va_S A0 H0 H locs) (hA : ∀ q, q < H.size → A1 q → A0 q) (hf : ∀ q, free q → A0 q) (hAX : ∀ q, q < H.size → AX q → A0 q)
    (kx : ∀ (E : String) (ce : Cell) (q9 : Addr) (u : SX) (t : State) (H1 : Heap) (locs1 : List Loc), t.heap = H1 → s.vm.Alike t.vm → px u → BX E u t → H.size ≤ H1.size → (∀ q : Nat, q < H.size → ¬ AX q → H1[q]? = H[q]?) → va_S A0 H0 H1 locs1 → H1[q9]? = some ce → ce.vm = .none → s.vm.findClass E = some ce.cls → vx_W p l e R s m args below meth c H1 locs1 (cells + mc) (slots + ms) Q (F0 m pc ls rest) q9)
    (kk : ∀ (r : Int32) (u : S) (t : State) (H1 : Heap) (locs1 : List Loc), t.heap = H1 → s.vm.Alike t.vm → post r u → B u t → H.size ≤ H1.size → (∀ q : Nat, q < H.size → ¬ A1 q → H1[q]? = H[q]?) → va_S A0 H0 H1 locs1 → W p l e R s m args below meth c H1 locs1 (cells + mc) (slots + ms) Q (F0 m (pc + 3) ls (.int r :: rest))) : W p l e R s m args below meth c H locs cells slots Q (F0 m pc ls st0) := by
  intro T hT X
  rcases hr T hT X with ⟨v, st₀, t, T', L, h0, X', hL, e1, e2, ⟨⟨r, u, hv, hp, hb⟩, hF⟩, st⟩ | ⟨q, st₀, t, T', L, E, ce, h0, X', hL, e1, e2, ⟨u, hp, hb, hF⟩, hce, hcv, hcl, st⟩
  · cases hv
    obtain ⟨k1, k2, k3⟩ := vx_keep h0 e1 hS hA hf hL hF
    obtain ⟨t2, a1, b1⟩ := kk r u t T'.heap (locs ++ L) e1.symm (by rw [← e2]; exact X'.warmed.alike) hp hb k1 k2 k3 T' rfl X'
    exact ⟨t2, st t2 a1, b1⟩
  · obtain ⟨k1, k2, k3⟩ := vx_keep h0 e1 hS hAX hf hL hF
    obtain ⟨t2, a1, b1⟩ := kx E ce q u t T'.heap (locs ++ L) e1.symm (by rw [← e2]; exact X'.warmed.alike) hp hb k1 k2 k3 (by rw [e1]; exact hce) hcv hcl T' rfl X'
    exact ⟨t2, st.trans a1, b1⟩
theorem vx_calll {S SX : Type} {post : Int64 → S → Prop} {px : SX → Prop} {B : S → State → Prop} {BX : String → SX → State → Prop} {AX : Nat → Prop} (hr : vx_Run p l e R s m args below meth c H locs cells slots mc ms (F0 m pc ls st0) rest (va_Ql post B A1 a) (vx_X px BX AX) free) (hS : va_S A0 H0 H locs) (hA : ∀ q, q < H.size → A1 q → A0 q) (hf : ∀ q, free q → A0 q) (hAX : ∀ q, q < H.size → AX q → A0 q)
    (kx : ∀ (E : String) (ce : Cell) (q9 : Addr) (u : SX) (t : State) (H1 : Heap) (locs1 : List Loc), t.heap = H1 → s.vm.Alike t.vm → px u → BX E u t → H.size ≤ H1.size → (∀ q : Nat, q < H.size → ¬ AX q → H1[q]? = H[q]?) → va_S A0 H0 H1 locs1 → H1[q9]? = some ce → ce.vm = .none → s.vm.findClass E = some ce.cls → vx_W p l e R s m args below meth c H1 locs1 (cells + mc) (slots + ms) Q (F0 m pc ls rest) q9)
    (kk : ∀ (r : Int64) (u : S) (t : State) (H1 : Heap) (locs1 : List Loc), t.heap = H1 → s.vm.Alike t.vm → post r u → B u t → H.size ≤ H1.size → (∀ q : Nat, q < H.size → ¬ A1 q → H1[q]? = H[q]?) → va_S A0 H0 H1 locs1 → W p l e R s m args below meth c H1 locs1 (cells + mc) (slots + ms) Q (F0 m (pc + 3) ls (.long r :: rest))) : W p l e R s m args below meth c H locs cells slots Q (F0 m pc ls st0) := by
  intro T hT X
  rcases hr T hT X with ⟨v, st₀, t, T', L, h0, X', hL, e1, e2, ⟨⟨r, u, hv, hp, hb⟩, hF⟩, st⟩ | ⟨q, st₀, t, T', L, E, ce, h0, X', hL, e1, e2, ⟨u, hp, hb, hF⟩, hce, hcv, hcl, st⟩
  · cases hv
    obtain ⟨k1, k2, k3⟩ := vx_keep h0 e1 hS hA hf hL hF
    obtain ⟨t2, a1, b1⟩ := kk r u t T'.heap (locs ++ L) e1.symm (by rw [← e2]; exact X'.warmed.alike) hp hb k1 k2 k3 T' rfl X'
    exact ⟨t2, st t2 a1, b1⟩
  · obtain ⟨k1, k2, k3⟩ := vx_keep h0 e1 hS hAX hf hL hF
    obtain ⟨t2, a1, b1⟩ := kx E ce q u t T'.heap (locs ++ L) e1.symm (by rw [← e2]; exact X'.warmed.alike) hp hb k1 k2 k3 (by rw [e1]; exact hce) hcv hcl T' rfl X'
    exact ⟨t2, st.trans a1, b1⟩
theorem vx_callf {S SX : Type} {post : UInt32 → S → Prop} {px : SX → Prop} {B : S → State → Prop} {BX : String → SX → State → Prop} {AX : Nat → Prop} (hr : vx_Run p l e R s m args below meth c H locs cells slots mc ms (F0 m pc ls st0) rest (va_Qf post B A1 a) (vx_X px BX AX) free) (hS : va_S A0 H0 H locs) (hA : ∀ q, q < H.size → A1 q → A0 q) (hf : ∀ q, free q → A0 q) (hAX : ∀ q, q < H.size → AX q → A0 q)
    (kx : ∀ (E : String) (ce : Cell) (q9 : Addr) (u : SX) (t : State) (H1 : Heap) (locs1 : List Loc), t.heap = H1 → s.vm.Alike t.vm → px u → BX E u t → H.size ≤ H1.size → (∀ q : Nat, q < H.size → ¬ AX q → H1[q]? = H[q]?) → va_S A0 H0 H1 locs1 → H1[q9]? = some ce → ce.vm = .none → s.vm.findClass E = some ce.cls → vx_W p l e R s m args below meth c H1 locs1 (cells + mc) (slots + ms) Q (F0 m pc ls rest) q9)
    (kk : ∀ (r : UInt32) (u : S) (t : State) (H1 : Heap) (locs1 : List Loc), t.heap = H1 → s.vm.Alike t.vm → post r u → B u t → H.size ≤ H1.size → (∀ q : Nat, q < H.size → ¬ A1 q → H1[q]? = H[q]?) → va_S A0 H0 H1 locs1 → W p l e R s m args below meth c H1 locs1 (cells + mc) (slots + ms) Q (F0 m (pc + 3) ls (.float r :: rest))) : W p l e R s m args below meth c H locs cells slots Q (F0 m pc ls st0) := by
  intro T hT X
  rcases hr T hT X with ⟨v, st₀, t, T', L, h0, X', hL, e1, e2, ⟨⟨r, u, hv, hp, hb⟩, hF⟩, st⟩ | ⟨q, st₀, t, T', L, E, ce, h0, X', hL, e1, e2, ⟨u, hp, hb, hF⟩, hce, hcv, hcl, st⟩
  · cases hv
    obtain ⟨k1, k2, k3⟩ := vx_keep h0 e1 hS hA hf hL hF
    obtain ⟨t2, a1, b1⟩ := kk r u t T'.heap (locs ++ L) e1.symm (by rw [← e2]; exact X'.warmed.alike) hp hb k1 k2 k3 T' rfl X'
    exact ⟨t2, st t2 a1, b1⟩
  · obtain ⟨k1, k2, k3⟩ := vx_keep h0 e1 hS hAX hf hL hF
    obtain ⟨t2, a1, b1⟩ := kx E ce q u t T'.heap (locs ++ L) e1.symm (by rw [← e2]; exact X'.warmed.alike) hp hb k1 k2 k3 (by rw [e1]; exact hce) hcv hcl T' rfl X'
    exact ⟨t2, st.trans a1, b1⟩
theorem vx_calld {S SX : Type} {post : UInt64 → S → Prop} {px : SX → Prop} {B : S → State → Prop} {BX : String → SX → State → Prop} {AX : Nat → Prop} (hr : vx_Run p l e R s m args below meth c H locs cells slots mc ms (F0 m pc ls st0) rest (va_Qd post B A1 a) (vx_X px BX AX) free) (hS : va_S A0 H0 H locs) (hA : ∀ q, q < H.size → A1 q → A0 q) (hf : ∀ q, free q → A0 q) (hAX : ∀ q, q < H.size → AX q → A0 q)
    (kx : ∀ (E : String) (ce : Cell) (q9 : Addr) (u : SX) (t : State) (H1 : Heap) (locs1 : List Loc), t.heap = H1 → s.vm.Alike t.vm → px u → BX E u t → H.size ≤ H1.size → (∀ q : Nat, q < H.size → ¬ AX q → H1[q]? = H[q]?) → va_S A0 H0 H1 locs1 → H1[q9]? = some ce → ce.vm = .none → s.vm.findClass E = some ce.cls → vx_W p l e R s m args below meth c H1 locs1 (cells + mc) (slots + ms) Q (F0 m pc ls rest) q9)
    (kk : ∀ (r : UInt64) (u : S) (t : State) (H1 : Heap) (locs1 : List Loc), t.heap = H1 → s.vm.Alike t.vm → post r u → B u t → H.size ≤ H1.size → (∀ q : Nat, q < H.size → ¬ A1 q → H1[q]? = H[q]?) → va_S A0 H0 H1 locs1 → W p l e R s m args below meth c H1 locs1 (cells + mc) (slots + ms) Q (F0 m (pc + 3) ls (.double r :: rest))) : W p l e R s m args below meth c H locs cells slots Q (F0 m pc ls st0) := by
  intro T hT X
  rcases hr T hT X with ⟨v, st₀, t, T', L, h0, X', hL, e1, e2, ⟨⟨r, u, hv, hp, hb⟩, hF⟩, st⟩ | ⟨q, st₀, t, T', L, E, ce, h0, X', hL, e1, e2, ⟨u, hp, hb, hF⟩, hce, hcv, hcl, st⟩
  · cases hv
    obtain ⟨k1, k2, k3⟩ := vx_keep h0 e1 hS hA hf hL hF
    obtain ⟨t2, a1, b1⟩ := kk r u t T'.heap (locs ++ L) e1.symm (by rw [← e2]; exact X'.warmed.alike) hp hb k1 k2 k3 T' rfl X'
    exact ⟨t2, st t2 a1, b1⟩
  · obtain ⟨k1, k2, k3⟩ := vx_keep h0 e1 hS hAX hf hL hF
    obtain ⟨t2, a1, b1⟩ := kx E ce q u t T'.heap (locs ++ L) e1.symm (by rw [← e2]; exact X'.warmed.alike) hp hb k1 k2 k3 (by rw [e1]; exact hce) hcv hcl T' rfl X'
    exact ⟨t2, st.trans a1, b1⟩
theorem vx_callv {S SX : Type} {post : S → Prop} {px : SX → Prop} {B : S → State → Prop} {BX : String → SX → State → Prop} {AX : Nat → Prop} (hr : vx_Run p l e R s m args below meth c H locs cells slots mc ms (F0 m pc ls st0) rest (va_Qv post B A1 a) (vx_X px BX AX) free) (hS : va_S A0 H0 H locs) (hA : ∀ q, q < H.size → A1 q → A0 q) (hf : ∀ q, free q → A0 q) (hAX : ∀ q, q < H.size → AX q → A0 q)
    (kx : ∀ (E : String) (ce : Cell) (q9 : Addr) (u : SX) (t : State) (H1 : Heap) (locs1 : List Loc), t.heap = H1 → s.vm.Alike t.vm → px u → BX E u t → H.size ≤ H1.size → (∀ q : Nat, q < H.size → ¬ AX q → H1[q]? = H[q]?) → va_S A0 H0 H1 locs1 → H1[q9]? = some ce → ce.vm = .none → s.vm.findClass E = some ce.cls → vx_W p l e R s m args below meth c H1 locs1 (cells + mc) (slots + ms) Q (F0 m pc ls rest) q9)
    (kk : ∀ (u : S) (t : State) (H1 : Heap) (locs1 : List Loc), t.heap = H1 → s.vm.Alike t.vm → post u → B u t → H.size ≤ H1.size → (∀ q : Nat, q < H.size → ¬ A1 q → H1[q]? = H[q]?) → va_S A0 H0 H1 locs1 → W p l e R s m args below meth c H1 locs1 (cells + mc) (slots + ms) Q (F0 m (pc + 3) ls (rest))) : W p l e R s m args below meth c H locs cells slots Q (F0 m pc ls st0) := by
  intro T hT X
  rcases hr T hT X with ⟨v, st₀, t, T', L, h0, X', hL, e1, e2, ⟨⟨u, hv, hp, hb⟩, hF⟩, st⟩ | ⟨q, st₀, t, T', L, E, ce, h0, X', hL, e1, e2, ⟨u, hp, hb, hF⟩, hce, hcv, hcl, st⟩
  · cases hv
    obtain ⟨k1, k2, k3⟩ := vx_keep h0 e1 hS hA hf hL hF
    obtain ⟨t2, a1, b1⟩ := kk u t T'.heap (locs ++ L) e1.symm (by rw [← e2]; exact X'.warmed.alike) hp hb k1 k2 k3 T' rfl X'
    exact ⟨t2, st t2 a1, b1⟩
  · obtain ⟨k1, k2, k3⟩ := vx_keep h0 e1 hS hAX hf hL hF
    obtain ⟨t2, a1, b1⟩ := kx E ce q u t T'.heap (locs ++ L) e1.symm (by rw [← e2]; exact X'.warmed.alike) hp hb k1 k2 k3 (by rw [e1]; exact hce) hcv hcl T' rfl X'
    exact ⟨t2, st.trans a1, b1⟩
/-- caught by the row x of this method's table; the rows ahead don't take it -/
theorem vx_catch {own name : String} {E : String} {ce : Cell} {q : Addr} (hown : s.vm.findClass own = some m.cls) (pre : List ExceptionTableEntry) (x : ExceptionTableEntry) (suf : List ExceptionTableEntry) (hsplit : c.exceptionTable.toList = pre ++ x :: suf)
    (hpass : ∀ z ∈ pre, covers z pc = false ∨ (z.catchType ≠ 0 ∧ ∃ nm : String, (Cond.classLink own z.catchType nm).before args s = true ∧ va_Nc E nm s)) (hx : covers x pc = true) (h0 : x.catchType ≠ 0)
    (hlink : (Cond.classLink own x.catchType name).before args s = true) (hcast : (Cond.castable E name).before args s = true) (hcell : H[q]? = some ce) (hv : ce.vm = .none) (hcl : s.vm.findClass E = some ce.cls)
    (kk : W p l e R s m args below meth c H locs cells slots Q (F0 m x.handlerPc ls [.ref q])) : vx_W p l e R s m args below meth c H locs cells slots Q (F0 m pc ls rest) q := by
  intro T hT X
  have hpl : e.platform.magicAccessors = ({} : Platform).magicAccessors := by rw [X.admits.platform]
  obtain ⟨c3, c4, hc3, hc4, hasg⟩ := Cond.castable_spec hcast
  cases Option.some.inj (hc3.symm.trans hcl)
  obtain ⟨c5, hc5, hcl5⟩ := Cond.classLink_spec hown hlink e.platform hpl
  cases Option.some.inj (hc4.symm.trans hc5)
  obtain ⟨vm', X', st⟩ := X.thenCaughtThrough q (g := F0 m pc ls rest) rfl (Steps.refl _) (by rw [hT]; exact hcell) (by rw [hv]; rfl) (by obtain ⟨k9, h9, -⟩ := Vm.findClass_spec hcl; exact ⟨k9, h9⟩) pre x suf hsplit
    (fun z hz => by
      rcases hpass z hz with h | ⟨hz0, nm, hl1, hn1⟩
      · exact Or.inl h
      · obtain ⟨c6, hc6, hcl6⟩ := Cond.classLink_spec hown hl1 e.platform hpl
        obtain ⟨a8, b8, h1, h2, h3⟩ := hn1
        cases Option.some.inj (h1.symm.trans hcl)
        cases Option.some.inj (h2.symm.trans hc6)
        exact Or.inr ⟨hz0, _, hcl6, h3⟩) hx (Or.inr ⟨h0, c4, hcl5, hasg⟩)
  obtain ⟨t, a1, b1⟩ := kk (T.setVm vm') hT X'
  exact ⟨t, st.trans a1, b1⟩
end Rows
section Ends
variable {p : Program} {l : Launch} {e : Env} {R : Room} {s : State} {m : MethodId} {args : Array Value} {below : List Frame} {meth : Method} {c : Code} {H : Heap} {locs : List Loc} {cells slots : Nat} {Q : State → Prop}
variable {mc ms : Nat} {free : Addr → Prop} {A0 A1 : Nat → Prop} {H0 : Heap} {a : Array Value} {ls : Array Slot} {st0 rest : List Value}
variable {Qc : Array Value → State → Outcome → State → Prop} {XC : String → State → State → Prop}
/-- what a body that may throw owes at its end -/
def vx_MQ (below : List Frame) (Qc : Array Value → State → Outcome → State → Prop) (XC : String → State → State → Prop) (a : Array Value) (s : State) (mc ms : Nat) (free : Addr → Prop) : State → Prop := fun t =>
  ∃ o, t.status = .running ∧ Ended t below o ∧ vx_Q Qc XC mc ms free a s o t
theorem vx_ret {g : JFrame} {mc ms : Nat} (k : W p l e R s m args below meth c H locs cells slots (MQ below Qc args s mc ms free) g) : W p l e R s m args below meth c H locs cells slots (vx_MQ below Qc XC args s mc ms free) g := by
  intro T hT X
  obtain ⟨t, a1, o, b1, b2, b3, b4⟩ := k T hT X
  exact ⟨t, a1, o, b1, b2, Or.inl ⟨b3, b4⟩⟩
/-- not caught here: it goes on to the caller -/
theorem vx_widen {g : JFrame} {q : Addr} {k n : Nat} (h1 : cells ≤ k) (h2 : slots ≤ n) (kk : vx_W p l e R s m args below meth c H locs k n Q g q) : vx_W p l e R s m args below meth c H locs cells slots Q g q := fun T hT X => kk T hT (stand_widen X h1 h2)
theorem vx_out {pc : Nat} {E : String} {ce : Cell} {q : Addr} {mc ms : Nat} (hout : ∀ x ∈ c.exceptionTable.toList, covers x pc = false) (hlocks : meth.locks = false) (hcell : H[q]? = some ce) (hv : ce.vm = .none) (hcl : s.vm.findClass E = some ce.cls)
    (hx : ∀ t : State, t.heap = H → s.vm.Alike t.vm → XC E s t) (hf : ∀ z ∈ locs, free z.base) (hc : cells ≤ mc) (hs : slots ≤ ms) :
    vx_W p l e R s m args below meth c H locs cells slots (vx_MQ below Qc XC args s mc ms free) (F0 m pc ls rest) q := by
  intro T hT X
  obtain ⟨st1, hrun, hend, hW, hsm⟩ := X.leaveThrown q (g := F0 m pc ls rest) rfl rfl rfl hout hlocks
  have hcell9 : (T.setFrames (.throwing q :: below)).heap[q]? = some ce := by
    show T.heap[q]? = some ce
    rw [hT]; exact hcell
  exact ⟨_, st1, .threw q, hrun, hend, Or.inr ⟨q, rfl, E, ce, locs, hx _ hT hW.alike, hcell9, hv, hcl, hW, hsm.mono hc hs, hf⟩⟩
theorem vx_frame {U : State} {k n : Nat} (h : s.sameButNew ({ U with vm := s.vm } : State) locs k n) : s.heap.size ≤ U.heap.size ∧ ∀ q : Nat, q < s.heap.size → (∀ z ∈ locs, z.base ≠ q) → U.heap[q]? = s.heap[q]? := by
  obtain ⟨-, h2, -, -, -, h6⟩ := h
  refine ⟨h2, fun q hq hz => ?_⟩
  obtain ⟨c9, e1, e2, e3, e4⟩ := h6 q _ (Array.getElem?_eq_getElem hq)
  have hs : c9.slots = (s.heap[q]).slots := Array.ext_getElem? fun i => e4 i fun hm => hz _ hm rfl
  have h9 : c9 = s.heap[q] := by
    rw [hs] at e2
    exact e2
  have e5 : U.heap[q]? = some c9 := e1
  rw [e5, h9, Array.getElem?_eq_getElem hq]
/-- the words of a throw but the four that speak of the heap -/
def vx_no (w : Cond) : Bool := decide (w ≠ .isRef (.static Bundle.tN "UNASSIGNED_STACK" Bundle.steD)) && decide (w ≠ .isRef (.static Bundle.tN "SUPPRESSED_SENTINEL" Bundle.listD)) && decide (w ≠ .laysStatic Bundle.tN "UNASSIGNED_STACK" Bundle.steD) && decide (w ≠ .laysStatic Bundle.tN "SUPPRESSED_SENTINEL" Bundle.listD)
def vx_at0 (own : String) (ic : Nat) (X : String) (names : List String) : List Cond := (Bundle.ownAtoms0 own ic X names).filter vx_no
def vx_atS (own : String) (ic : Nat) (X : String) (names : List String) : List Cond := (Bundle.ownAtoms own ic X names).filter vx_no
/-- a word that the tables alone decide, or a good one -/
def vx_ot (w : Cond) : Bool := w.onTables || goodWord w
theorem vx_ot_at {args a' : Array Value} {s U : State} {w : Cond} (hW : s.WarmedH U.vm) (hvm : s.vm = U.vm) (hg : vx_ot w = true) (h : w.before args s = true) : w.before a' U = true := by
  simp only [vx_ot, Bool.or_eq_true] at hg
  rcases hg with hg | hg
  · exact va_tabs hg hvm h
  · exact word_at hW (good_of_word hg) h
/-- a list's words: the good ones out of the method's own list, the others by premises of their own -/
theorem vx_hat {args : Array Value} {s : State} {L B : List Cond} (h1 : ∀ w ∈ L.filter goodWord, w.before args s = true) (h2 : ∀ w ∈ L.filter (fun w => !goodWord w), w ∈ B) (h3 : ∀ w ∈ B, w.before args s = true) : ∀ w ∈ L, w.before args s = true := by
  intro w hw
  by_cases g : goodWord w = true
  · exact h1 w (List.mem_filter.mpr ⟨hw, g⟩)
  · refine h3 w (h2 w (List.mem_filter.mpr ⟨hw, ?_⟩))
    show (!goodWord w) = true
    cases hgw : goodWord w
    · rfl
    · exact absurd hgw g
theorem vx_c {args : Array Value} {s : State} {w : Cond} {B : List Cond} (h : w.before args s = true) (t : ∀ w ∈ B, w.before args s = true) : ∀ w' ∈ w :: B, w'.before args s = true := fun w' h' => (List.mem_cons.mp h').elim (fun e => by rw [e]; exact h) (t w')
theorem vx_n {args : Array Value} {s : State} : ∀ w ∈ ([] : List Cond), w.before args s = true := fun _ h => nomatch h
theorem vx_own {args : Array Value} {s : State} {L : List Cond} (h1 : ∀ w ∈ L.filter vx_no, w.before args s = true)
    (hU : (Cond.isRef (.static Bundle.tN "UNASSIGNED_STACK" Bundle.steD)).before args s = true) (hN : (Cond.isRef (.static Bundle.tN "SUPPRESSED_SENTINEL" Bundle.listD)).before args s = true)
    (lU : (Cond.laysStatic Bundle.tN "UNASSIGNED_STACK" Bundle.steD).before args s = true) (lN : (Cond.laysStatic Bundle.tN "SUPPRESSED_SENTINEL" Bundle.listD).before args s = true) : ∀ w ∈ L, w.before args s = true := by
  intro w hw
  by_cases e1 : w = .isRef (.static Bundle.tN "UNASSIGNED_STACK" Bundle.steD)
  · rw [e1]; exact hU
  · by_cases e2 : w = .isRef (.static Bundle.tN "SUPPRESSED_SENTINEL" Bundle.listD)
    · rw [e2]; exact hN
    · by_cases e3 : w = .laysStatic Bundle.tN "UNASSIGNED_STACK" Bundle.steD
      · rw [e3]; exact lU
      · by_cases e4 : w = .laysStatic Bundle.tN "SUPPRESSED_SENTINEL" Bundle.listD
        · rw [e4]; exact lN
        · exact h1 w (List.mem_filter.mpr ⟨hw, by unfold vx_no; rw [decide_eq_true e1, decide_eq_true e2, decide_eq_true e3, decide_eq_true e4]; rfl⟩)
/-- where a static field lies, its class's statics cell in H -/
def vx_L (C n d : String) (A : Nat → Prop) (U : State) (H : Heap) : Prop := ∃ (c : ClassId) (k : Class) (i : Nat) (f : Field) (a : Nat) (cell : Cell), U.vm.findClass C = some c ∧ U.fieldFound? C n d = some (c, k, i, f) ∧ f.isStatic = true ∧ k.statics = some a ∧ H[a]? = some cell ∧ cell.vm.isStatics = true ∧ cell.cls = c ∧ f.slot < cell.slots.size ∧ k.staticTypes[f.slot]? = some f.type ∧ ¬ A a
theorem vx_L.moved {C n d : String} {A : Nat → Prop} {u U : State} {H : Heap} (hvm : u.vm.Alike U.vm) (h : vx_L C n d A u H) : vx_L C n d A U H := by
  obtain ⟨c, k, i, f, a, cell, h1, h2, h3, h4, h5, h6, h7, h8, h9, h10⟩ := h
  obtain ⟨k', hi', he⟩ := State.fieldFound?_setVm hvm h2
  exact ⟨c, k', i, f, a, cell, by rw [hvm.findClass]; exact h1, hi', h3, by rw [he]; exact h4, h5, h6, h7, h8, by rw [he]; exact h9, h10⟩
theorem vx_L.kept {C n d : String} {A : Nat → Prop} {U : State} {H H1 : Heap} (h : vx_L C n d A U H) (hq : ∀ a : Nat, a < H.size → ¬ A a → H1[a]? = H[a]?) : vx_L C n d A U H1 := by
  obtain ⟨c, k, i, f, a, cell, h1, h2, h3, h4, h5, h6, h7, h8, h9, h10⟩ := h
  exact ⟨c, k, i, f, a, cell, h1, h2, h3, h4, by rw [hq a (Array.getElem?_eq_some_iff.mp h5).1 h10]; exact h5, h6, h7, h8, h9, h10⟩
theorem vx_L.narrow {C n d : String} {A B : Nat → Prop} {U : State} {H : Heap} (h : vx_L C n d A U H) (hAB : ∀ q, B q → A q) : vx_L C n d B U H := by
  obtain ⟨c, k, i, f, a, cell, h1, h2, h3, h4, h5, h6, h7, h8, h9, h10⟩ := h
  exact ⟨c, k, i, f, a, cell, h1, h2, h3, h4, h5, h6, h7, h8, h9, fun z => h10 (hAB _ z)⟩
theorem vx_L.word {C n d : String} {A : Nat → Prop} {s : State} {args : Array Value} (h : vx_L C n d A s s.heap) : (Cond.laysStatic C n d).before args s = true := by
  obtain ⟨c, k, i, f, a, cell, h1, h2, h3, h4, h5, h6, h7, h8, h9, -⟩ := h
  show (Cond.laysStatic C n d).holds args s none s [] = true
  exact Cond.laysStatic_of h1 h2 h3 h4 h5 h6 h7 h8 h9
/-- .. and what it holds: null or some reference -/
def vx_Zq (C n d : String) (A : Nat → Prop) (U : State) (H : Heap) : Prop := va_Zq C n d A U H ∧ vx_L C n d A U H
theorem vx_Zq.moved {C n d : String} {A : Nat → Prop} {u U : State} {H : Heap} (hvm : u.vm.Alike U.vm) (h : vx_Zq C n d A u H) : vx_Zq C n d A U H := ⟨va_Zq.moved hvm h.1, vx_L.moved hvm h.2⟩
theorem vx_Zq.kept {C n d : String} {A : Nat → Prop} {U : State} {H H1 : Heap} (h : vx_Zq C n d A U H) (hq : ∀ a : Nat, a < H.size → ¬ A a → H1[a]? = H[a]?) : vx_Zq C n d A U H1 := ⟨va_Zq.kept h.1 hq, vx_L.kept h.2 hq⟩
theorem vx_Zq.narrow {C n d : String} {A B : Nat → Prop} {U : State} {H : Heap} (h : vx_Zq C n d A U H) (hAB : ∀ q, B q → A q) : vx_Zq C n d B U H := ⟨va_Zq.narrow h.1 hAB, vx_L.narrow h.2 hAB⟩
theorem vx_Zqof {args : Array Value} {s : State} {C n d : String} {A : Nat → Prop} (hl : (Cond.laysStatic C n d).before args s = true) (hini : (Cond.initialized C).before args s = true) (h : (Cond.isRef (.static C n d)).before args s = true) (hA : ∀ a : Nat, a < s.heap.size → ¬ A a) : vx_Zq C n d A s s.heap := by
  refine ⟨va_Zqof hl hini h hA, ?_⟩
  obtain ⟨c, k, i, f, a, cell, h1, h2, h3, h4, h5, h6, h7, h8, h9⟩ := Cond.laysStatic_spec hl
  exact ⟨c, k, i, f, a, cell, h1, h2, h3, h4, h5, h6, h7, h8, h9, hA a (Array.getElem?_eq_some_iff.mp h5).1⟩
theorem vx_isRef {C n d : String} {v : Value} {A : Nat → Prop} {s : State} {args : Array Value} (h : va_Z C n d v A s s.heap) (hv : v.isRef = true) : (Cond.isRef (.static C n d)).before args s = true := by
  obtain ⟨cf, kf, fi, f, a, cell, h1, h2, h3, h4, h5, h6, h7, -⟩ := h
  have he : (Term.static C n d).eval args s none [] s = some v := by
    simp [Term.eval, State.fieldNamed?, h1, h2, h4, h5, h6, h7]
  simp only [Cond.before, Cond.holds, Cond.value, he]
  cases v <;> simp_all [Value.isRef]
theorem vx_isRefq {C n d : String} {A : Nat → Prop} {s : State} {args : Array Value} (h : va_Zq C n d A s s.heap) : (Cond.isRef (.static C n d)).before args s = true := by
  rcases h with h | ⟨t, h⟩
  · exact vx_isRef h rfl
  · exact vx_isRef h rfl
/-- the same frame, seen from here: as if the method were called anew in this heap -/
theorem vx_rebase {T : State} (X : Stand p l e R s m args below meth c T locs cells slots) {R' : Room} (hf : R'.frames ≤ R.frames) (hl : R'.locals ≤ R.locals) (hc : cells + R'.cells ≤ R.cells) (hs : slots + R'.slots ≤ R.slots) :
    Stand p l e R' ((T.setVm s.vm).setFrames (.invoking m args :: below)) m args below meth c T [] 0 0 := by
  have htop : (T.setVm s.vm).topJava?.isSome := X.here.top
  have hF : ((T.setVm s.vm).setFrames (.invoking m args :: below)).frames = .invoking m args :: below := State.frames_setFrames _ (State.cur_lt_of_top htop)
  obtain ⟨g₀, hg0⟩ := Option.isSome_iff_exists.mp htop
  obtain ⟨r, hr⟩ := State.topJava?_eq_some.mp hg0
  have hl9 : e.platform.stackLimits (T.setVm s.vm).me = e.platform.stackLimits s.me := X.limits
  have hb9 : (T.setVm s.vm).me.stackBytes = s.me.stackBytes := X.bytes
  refine ⟨X.admits, X.cas, X.clock, hF, ?_, X.hears, X.method, X.code, X.here, X.tail, X.warmed, ?_, ?_, ?_⟩
  · have h := X.room
    have hU : ((T.setVm s.vm).setFrames (.invoking m args :: below)).localsInUse = s.localsInUse := by
      rw [State.localsInUse_invoking hF (meth := meth) (c := c) X.method X.code, State.localsInUse_invoking X.frames X.method X.code]
    simp only [State.hasRoom, Bool.and_eq_true, decide_eq_true_eq] at h ⊢
    obtain ⟨⟨⟨⟨h1, h2, h3, h4, h5, h6⟩, h7⟩, h8⟩, h9⟩ := h
    rw [X.frames, List.length_cons] at h2 h3
    have q1 := X.heapSize
    have q2 := X.used
    simp only [hF, hU, List.length_cons, State.stackLimits_setFrames, State.stackBytes_setFrames, hl9, hb9]
    refine ⟨⟨⟨⟨by omega, by omega, by omega, by omega, by omega, h6⟩, ?_⟩, ?_⟩, X.book⟩
    · show T.heap.size + R'.cells ≤ e.platform.maxCells
      omega
    · show T.slotsUsed + R'.slots ≤ e.platform.maxSlots
      omega
  · rw [State.stackLimits_setFrames]; rfl
  · rw [State.stackBytes_setFrames]; rfl
  · refine ⟨?_, Nat.le_refl _, Nat.le_refl _, ?_, ?_, fun a c9 h9 => ⟨c9, h9, rfl, rfl, fun _ _ => rfl⟩⟩
    · obtain ⟨t, ht, -⟩ := State.frames_cons hr
      show T.setVm s.vm = { ((T.setVm s.vm).setFrames (.invoking m args :: below)).setFrames (T.setVm s.vm).frames with heap := T.heap, slotsUsed := T.slotsUsed }
      rw [State.setFrames_setFrames, State.setFrames_self ht]
      rfl
    · show T.slotsUsed = T.slotsUsed + ((T.heap.toList.drop T.heap.size).map (·.slots.size)).sum
      rw [List.drop_eq_nil_of_le (Nat.le_of_eq Array.length_toList)]
      rfl
    · show ((T.heap.toList.drop T.heap.size).map (·.slots.size)).sum ≤ 0
      rw [List.drop_eq_nil_of_le (Nat.le_of_eq Array.length_toList)]
      exact Nat.le_refl _
/-- 'throw new E()': new; dup; invokespecial; athrow -/
theorem vx_throw0 {cc : ByteArray} {pc : Nat} (hexec : p.tables.exec = Jvm.exec) (hb : c.code = cc) (hl : l.stackTraces = false) {own cls : String} {names : List String} {ik ic mc ms : Nat} {A : Nat → Prop}
    (hown : s.vm.findClass own = some m.cls) (hcls : Bundle.fit cls = true) (hnames : ∀ n ∈ names, Bundle.fit n = true)
    (hk : (Cond.classLink own ik cls).before args s = true) (hini : (Cond.initialized cls).before args s = true) (hat : ∀ w ∈ vx_at0 own ic cls names, w.before args s = true)
    (hgood : ∀ w ∈ Cond.classLink own ik cls :: Cond.initialized cls :: vx_at0 own ic cls names, vx_ot w = true)
    (hU : vx_Zq Bundle.tN "UNASSIGNED_STACK" Bundle.steD A s s.heap) (hN : vx_Zq Bundle.tN "SUPPRESSED_SENTINEL" Bundle.listD A s s.heap) (hS : va_S A s.heap H locs) (hsize : ls.size = c.maxLocals)
    (d0 : decode cc pc = .ok (.new ik, 3)) (d3 : decode cc (pc + 3) = .ok (.dup, 1)) (d4 : decode cc (pc + 4) = .ok (.invokespecial ic, 3)) (d7 : decode cc (pc + 7) = .ok (.athrow, 1))
    (hout : ∀ x ∈ c.exceptionTable.toList, covers x (pc + 7) = false)
    (hRframes : names.length + 3 < R.frames) (hRlocals : (rest.map fun v => v.category).sum + (13 * (names.length + 1) + 42) ≤ R.locals) (hRcells : cells + 1 ≤ R.cells) (hRslots : slots + 6 ≤ R.slots) (hlocks : meth.locks = false)
    (hx : ∀ t : State, s.vm.Alike t.vm → H.size ≤ t.heap.size → (∀ q : Nat, q < H.size → t.heap[q]? = H[q]?) → XC cls s t)
    (hf : ∀ z ∈ locs, free z.base) (hc : cells + 1 ≤ mc) (hs : slots + 6 ≤ ms) :
    W p l e R s m args below meth c H locs cells slots (vx_MQ below Qc XC args s mc ms free) (F0 m pc ls rest) := by
  intro T hT X
  have htr : e.platform.stackTraces = false := (show e.platform.stackTraces = l.stackTraces by rw [X.admits.platform]).trans hl
  have Y := vx_rebase X (R' := { frames := R.frames, locals := R.locals, cells := 1, slots := 6 }) (Nat.le_refl _) (Nat.le_refl _) hRcells hRslots
  obtain ⟨s', hA⟩ : ∃ z, z = (T.setVm s.vm).setFrames (.invoking m args :: below) := ⟨_, rfl⟩
  rw [← hA] at Y
  have hvm : s'.vm = s.vm := by rw [hA]; rfl
  have hhp : s'.heap = H := by rw [hA]; exact hT
  have hW0 : s.WarmedH s'.vm := by rw [hvm]; exact State.WarmedH.refl s
  have hat' : ∀ w ∈ vx_at0 own ic cls names, w.before args s' = true := fun w hw => vx_ot_at hW0 hvm.symm (hgood w (List.mem_cons_of_mem _ (List.mem_cons_of_mem _ hw))) (hat w hw)
  have hk' : (Cond.classLink own ik cls).before args s' = true := vx_ot_at hW0 hvm.symm (hgood _ List.mem_cons_self) hk
  have hini' : (Cond.initialized cls).before args s' = true := vx_ot_at hW0 hvm.symm (hgood _ (List.mem_cons_of_mem _ List.mem_cons_self)) hini
  have hU' : vx_Zq Bundle.tN "UNASSIGNED_STACK" Bundle.steD A s' s'.heap := by rw [hhp]; exact vx_Zq.moved hW0.alike (hU.kept hS.2.1)
  have hN' : vx_Zq Bundle.tN "SUPPRESSED_SENTINEL" Bundle.listD A s' s'.heap := by rw [hhp]; exact vx_Zq.moved hW0.alike (hN.kept hS.2.1)
  have h : ∀ w ∈ Bundle.ownAtoms0 own ic cls names, w.before args s' = true := vx_own hat' (vx_isRefq hU'.1) (vx_isRefq hN'.1) hU'.2.word hN'.2.word
  have hown' : s'.vm.findClass own = some m.cls := by rw [hvm]; exact hown
  have hins : (Cond.instantiable cls 6).before args s' = true := h _ (by simp [Bundle.ownAtoms0])
  obtain ⟨vm₁, cX, kX, hfX, hkX, -, -, X₁, st1⟩ := Y.newCold hexec (own := own) (C := cls) (index := ik) (n := 6) hown' hk' hins hini'
    (g := F0 m pc ls rest) rfl (by rw [hb]; exact d0) (Nat.le_refl _) (Nat.le_refl _)
  generalize hT1 : (T.setVm vm₁).pushCell { cls := cX, slots := kX.instanceTypes.map defaultValue, vm := .none } = T1 at X₁ st1
  have hcat : (Value.ref T.heap.size).category = 1 := rfl
  have hcellA : T1.heap[T.heap.size]? = some (freshCell cX kX) := by rw [← hT1]; exact State.heap_pushCell_size _ _
  have d3' : decode c.code (pc + 3) = .ok (.dup, 1) := by rw [hb]; exact d3
  obtain ⟨U, hsteps, hrun, hend, hW, hsame, ce, hce, hO⟩ := X₁.ctorThrow0 hexec htr (own := own) (cls := cls) (names := names) (ic := ic) hown' hcls hnames h (fun x hx => nomatch hx) hfX hkX hcellA (by rw [hhp, hT]; exact Nat.le_refl _)
    (g := { method := m, pc := pc + 4, locals := ls, stack := .ref T.heap.size :: .ref T.heap.size :: rest, locked := none }) rfl hsize rfl rfl (rest := rest) rfl
    (by rw [hb]; exact d4) (by rw [hb]; exact d7) hout hRframes (by simp only [List.map_cons, List.sum_cons, hcat]; omega) hlocks
  obtain ⟨f1, f2⟩ := vx_frame hsame
  rw [hhp] at f1 f2
  have hWs : s.WarmedH U.vm := State.WarmedH.trans hW0 hW
  have hcl : s.vm.findClass cls = some ce.cls := by
    have h9 := hO.cls
    rw [hvm] at h9
    exact h9
  have hall : s.sameButNew ({ U with vm := s.vm } : State) locs mc ms := by
    subst hA
    obtain ⟨e1, e2⟩ := hsame
    rw [State.setFrames_setFrames] at e1
    have h2 : (T.setVm s.vm).sameButNew ({ U with vm := s.vm } : State) [] (0 + 1) (0 + 6) := ⟨e1, e2⟩
    have h3 := X.same.trans h2
    rw [List.append_nil] at h3
    exact h3.mono hc hs
  refine ⟨U, ?_, .threw T.heap.size, hrun, hend, Or.inr ⟨T.heap.size, rfl, cls, ce, locs, hx U hWs.alike f1 (fun q hq => f2 q hq (fun z hz => nomatch hz)), hce, hO.vm, hcl, hWs, hall, hf⟩⟩
  refine st1 _ ?_
  show Steps p.tables e below (T1.setTop { method := m, pc := pc + 3, locals := ls, stack := .ref T.heap.size :: rest, locked := none }) _
  jvm_step X₁.here [X₁.here.top, hexec, d3', Value.category]
  exact hsteps
/-- 'throw new E("text")': new; dup; ldc; invokespecial; athrow -/
theorem vx_throwS {cc : ByteArray} {pc : Nat} (hexec : p.tables.exec = Jvm.exec) (hb : c.code = cc) (hl : l.stackTraces = false) {own cls text : String} {names : List String} {ik is ic mc ms sa : Nat} {A : Nat → Prop}
    (hown : s.vm.findClass own = some m.cls) (hcls : Bundle.fit cls = true) (hnames : ∀ n ∈ names, Bundle.fit n = true)
    (hk : (Cond.classLink own ik cls).before args s = true) (hini : (Cond.initialized cls).before args s = true) (hstr : vk_R own is text sa s) (hat : ∀ w ∈ vx_atS own ic cls names, w.before args s = true)
    (hgood : ∀ w ∈ Cond.classLink own ik cls :: Cond.initialized cls :: vx_atS own ic cls names, vx_ot w = true)
    (hU : vx_Zq Bundle.tN "UNASSIGNED_STACK" Bundle.steD A s s.heap) (hN : vx_Zq Bundle.tN "SUPPRESSED_SENTINEL" Bundle.listD A s s.heap) (hS : va_S A s.heap H locs) (hsize : ls.size = c.maxLocals)
    (d0 : decode cc pc = .ok (.new ik, 3)) (d3 : decode cc (pc + 3) = .ok (.dup, 1)) (d4 : decode cc (pc + 4) = .ok (.ldc is, 2)) (d6 : decode cc (pc + 6) = .ok (.invokespecial ic, 3)) (d9 : decode cc (pc + 9) = .ok (.athrow, 1))
    (hout : ∀ x ∈ c.exceptionTable.toList, covers x (pc + 9) = false)
    (hRframes : names.length + 3 < R.frames) (hRlocals : (rest.map fun v => v.category).sum + (13 * (names.length + 1) + 43) ≤ R.locals) (hRcells : cells + 1 ≤ R.cells) (hRslots : slots + 6 ≤ R.slots) (hlocks : meth.locks = false)
    (hx : ∀ t : State, s.vm.Alike t.vm → H.size ≤ t.heap.size → (∀ q : Nat, q < H.size → t.heap[q]? = H[q]?) → XC cls s t)
    (hf : ∀ z ∈ locs, free z.base) (hc : cells + 1 ≤ mc) (hs : slots + 6 ≤ ms) :
    W p l e R s m args below meth c H locs cells slots (vx_MQ below Qc XC args s mc ms free) (F0 m pc ls rest) := by
  intro T hT X
  have htr : e.platform.stackTraces = false := (show e.platform.stackTraces = l.stackTraces by rw [X.admits.platform]).trans hl
  have Y := vx_rebase X (R' := { frames := R.frames, locals := R.locals, cells := 1, slots := 6 }) (Nat.le_refl _) (Nat.le_refl _) hRcells hRslots
  obtain ⟨s', hA⟩ : ∃ z, z = (T.setVm s.vm).setFrames (.invoking m args :: below) := ⟨_, rfl⟩
  rw [← hA] at Y
  have hvm : s'.vm = s.vm := by rw [hA]; rfl
  have hhp : s'.heap = H := by rw [hA]; exact hT
  have hW0 : s.WarmedH s'.vm := by rw [hvm]; exact State.WarmedH.refl s
  have hat' : ∀ w ∈ vx_atS own ic cls names, w.before args s' = true := fun w hw => vx_ot_at hW0 hvm.symm (hgood w (List.mem_cons_of_mem _ (List.mem_cons_of_mem _ hw))) (hat w hw)
  have hk' : (Cond.classLink own ik cls).before args s' = true := vx_ot_at hW0 hvm.symm (hgood _ List.mem_cons_self) hk
  have hini' : (Cond.initialized cls).before args s' = true := vx_ot_at hW0 hvm.symm (hgood _ (List.mem_cons_of_mem _ List.mem_cons_self)) hini
  have hU' : vx_Zq Bundle.tN "UNASSIGNED_STACK" Bundle.steD A s' s'.heap := by rw [hhp]; exact vx_Zq.moved hW0.alike (hU.kept hS.2.1)
  have hN' : vx_Zq Bundle.tN "SUPPRESSED_SENTINEL" Bundle.listD A s' s'.heap := by rw [hhp]; exact vx_Zq.moved hW0.alike (hN.kept hS.2.1)
  have h : ∀ w ∈ Bundle.ownAtoms own ic cls names, w.before args s' = true := vx_own hat' (vx_isRefq hU'.1) (vx_isRefq hN'.1) hU'.2.word hN'.2.word
  have hown' : s'.vm.findClass own = some m.cls := by rw [hvm]; exact hown
  have hins : (Cond.instantiable cls 6).before args s' = true := h _ (by simp [Bundle.ownAtoms])
  obtain ⟨vm₁, cX, kX, hfX, hkX, -, -, X₁, st1⟩ := Y.newCold hexec (own := own) (C := cls) (index := ik) (n := 6) hown' hk' hins hini'
    (g := F0 m pc ls rest) rfl (by rw [hb]; exact d0) (Nat.le_refl _) (Nat.le_refl _)
  generalize hT1 : (T.setVm vm₁).pushCell { cls := cX, slots := kX.instanceTypes.map defaultValue, vm := .none } = T1 at X₁ st1
  have hcat : (Value.ref T.heap.size).category = 1 := rfl
  have hcellA : T1.heap[T.heap.size]? = some (freshCell cX kX) := by rw [← hT1]; exact State.heap_pushCell_size _ _
  have d3' : decode c.code (pc + 3) = .ok (.dup, 1) := by rw [hb]; exact d3
  have d4' : decode c.code (pc + 4) = .ok (.ldc is, 2) := by rw [hb]; exact d4
  have hstr' : vk_R own is text sa s' := vk_R.warm hW0 hstr
  obtain ⟨U, hsteps, hrun, hend, hW, hsame, ce, hce, hO⟩ := X₁.ctorThrowS hexec htr (own := own) (cls := cls) (names := names) (ic := ic) hown' hcls hnames h (fun x hx => nomatch hx) hfX hkX hcellA (by rw [hhp, hT]; exact Nat.le_refl _) (msg := .ref sa) rfl
    (g := { method := m, pc := pc + 6, locals := ls, stack := .ref sa :: .ref T.heap.size :: .ref T.heap.size :: rest, locked := none }) rfl hsize rfl rfl (rest := rest) rfl
    (by rw [hb]; exact d6) (by rw [hb]; exact d9) hout hRframes (by simp only [List.map_cons, List.sum_cons, hcat]; omega) hlocks
  obtain ⟨f1, f2⟩ := vx_frame hsame
  rw [hhp] at f1 f2
  have hWs : s.WarmedH U.vm := State.WarmedH.trans hW0 hW
  have hcl : s.vm.findClass cls = some ce.cls := by
    have h9 := hO.cls
    rw [hvm] at h9
    exact h9
  have hall : s.sameButNew ({ U with vm := s.vm } : State) locs mc ms := by
    subst hA
    obtain ⟨e1, e2⟩ := hsame
    rw [State.setFrames_setFrames] at e1
    have h2 : (T.setVm s.vm).sameButNew ({ U with vm := s.vm } : State) [] (0 + 1) (0 + 6) := ⟨e1, e2⟩
    have h3 := X.same.trans h2
    rw [List.append_nil] at h3
    exact h3.mono hc hs
  refine ⟨U, ?_, .threw T.heap.size, hrun, hend, Or.inr ⟨T.heap.size, rfl, cls, ce, locs, hx U hWs.alike f1 (fun q hq => f2 q hq (fun z hz => nomatch hz)), hce, hO.vm, hcl, hWs, hall, hf⟩⟩
  refine st1 _ ?_
  show Steps p.tables e below (T1.setTop { method := m, pc := pc + 3, locals := ls, stack := .ref T.heap.size :: rest, locked := none }) _
  jvm_step X₁.here [X₁.here.top, hexec, d3', Value.category]
  exact X₁.ldcString hexec (own := own) (text := text) (index := is) (a := sa) hown' hstr'.1 hstr'.2
    (g := { method := m, pc := pc + 4, locals := ls, stack := .ref T.heap.size :: .ref T.heap.size :: rest, locked := none }) rfl d4' _ hsteps
/-- 'throw new E("text")', the text by a wide index -/
theorem vx_throwSW {cc : ByteArray} {pc : Nat} (hexec : p.tables.exec = Jvm.exec) (hb : c.code = cc) (hl : l.stackTraces = false) {own cls text : String} {names : List String} {ik is ic mc ms sa : Nat} {A : Nat → Prop}
    (hown : s.vm.findClass own = some m.cls) (hcls : Bundle.fit cls = true) (hnames : ∀ n ∈ names, Bundle.fit n = true)
    (hk : (Cond.classLink own ik cls).before args s = true) (hini : (Cond.initialized cls).before args s = true) (hstr : vk_R own is text sa s) (hat : ∀ w ∈ vx_atS own ic cls names, w.before args s = true)
    (hgood : ∀ w ∈ Cond.classLink own ik cls :: Cond.initialized cls :: vx_atS own ic cls names, vx_ot w = true)
    (hU : vx_Zq Bundle.tN "UNASSIGNED_STACK" Bundle.steD A s s.heap) (hN : vx_Zq Bundle.tN "SUPPRESSED_SENTINEL" Bundle.listD A s s.heap) (hS : va_S A s.heap H locs) (hsize : ls.size = c.maxLocals)
    (d0 : decode cc pc = .ok (.new ik, 3)) (d3 : decode cc (pc + 3) = .ok (.dup, 1)) (d4 : decode cc (pc + 4) = .ok (.ldc_w is, 3)) (d7 : decode cc (pc + 7) = .ok (.invokespecial ic, 3)) (d10 : decode cc (pc + 10) = .ok (.athrow, 1))
    (hout : ∀ x ∈ c.exceptionTable.toList, covers x (pc + 10) = false)
    (hRframes : names.length + 3 < R.frames) (hRlocals : (rest.map fun v => v.category).sum + (13 * (names.length + 1) + 43) ≤ R.locals) (hRcells : cells + 1 ≤ R.cells) (hRslots : slots + 6 ≤ R.slots) (hlocks : meth.locks = false)
    (hx : ∀ t : State, s.vm.Alike t.vm → H.size ≤ t.heap.size → (∀ q : Nat, q < H.size → t.heap[q]? = H[q]?) → XC cls s t)
    (hf : ∀ z ∈ locs, free z.base) (hc : cells + 1 ≤ mc) (hs : slots + 6 ≤ ms) :
    W p l e R s m args below meth c H locs cells slots (vx_MQ below Qc XC args s mc ms free) (F0 m pc ls rest) := by
  intro T hT X
  have htr : e.platform.stackTraces = false := (show e.platform.stackTraces = l.stackTraces by rw [X.admits.platform]).trans hl
  have Y := vx_rebase X (R' := { frames := R.frames, locals := R.locals, cells := 1, slots := 6 }) (Nat.le_refl _) (Nat.le_refl _) hRcells hRslots
  obtain ⟨s', hA⟩ : ∃ z, z = (T.setVm s.vm).setFrames (.invoking m args :: below) := ⟨_, rfl⟩
  rw [← hA] at Y
  have hvm : s'.vm = s.vm := by rw [hA]; rfl
  have hhp : s'.heap = H := by rw [hA]; exact hT
  have hW0 : s.WarmedH s'.vm := by rw [hvm]; exact State.WarmedH.refl s
  have hat' : ∀ w ∈ vx_atS own ic cls names, w.before args s' = true := fun w hw => vx_ot_at hW0 hvm.symm (hgood w (List.mem_cons_of_mem _ (List.mem_cons_of_mem _ hw))) (hat w hw)
  have hk' : (Cond.classLink own ik cls).before args s' = true := vx_ot_at hW0 hvm.symm (hgood _ List.mem_cons_self) hk
  have hini' : (Cond.initialized cls).before args s' = true := vx_ot_at hW0 hvm.symm (hgood _ (List.mem_cons_of_mem _ List.mem_cons_self)) hini
  have hU' : vx_Zq Bundle.tN "UNASSIGNED_STACK" Bundle.steD A s' s'.heap := by rw [hhp]; exact vx_Zq.moved hW0.alike (hU.kept hS.2.1)
  have hN' : vx_Zq Bundle.tN "SUPPRESSED_SENTINEL" Bundle.listD A s' s'.heap := by rw [hhp]; exact vx_Zq.moved hW0.alike (hN.kept hS.2.1)
  have h : ∀ w ∈ Bundle.ownAtoms own ic cls names, w.before args s' = true := vx_own hat' (vx_isRefq hU'.1) (vx_isRefq hN'.1) hU'.2.word hN'.2.word
  have hown' : s'.vm.findClass own = some m.cls := by rw [hvm]; exact hown
  have hins : (Cond.instantiable cls 6).before args s' = true := h _ (by simp [Bundle.ownAtoms])
  obtain ⟨vm₁, cX, kX, hfX, hkX, -, -, X₁, st1⟩ := Y.newCold hexec (own := own) (C := cls) (index := ik) (n := 6) hown' hk' hins hini'
    (g := F0 m pc ls rest) rfl (by rw [hb]; exact d0) (Nat.le_refl _) (Nat.le_refl _)
  generalize hT1 : (T.setVm vm₁).pushCell { cls := cX, slots := kX.instanceTypes.map defaultValue, vm := .none } = T1 at X₁ st1
  have hcat : (Value.ref T.heap.size).category = 1 := rfl
  have hcellA : T1.heap[T.heap.size]? = some (freshCell cX kX) := by rw [← hT1]; exact State.heap_pushCell_size _ _
  have d3' : decode c.code (pc + 3) = .ok (.dup, 1) := by rw [hb]; exact d3
  have d4' : decode c.code (pc + 4) = .ok (.ldc_w is, 3) := by rw [hb]; exact d4
  have hstr' : vk_R own is text sa s' := vk_R.warm hW0 hstr
  obtain ⟨U, hsteps, hrun, hend, hW, hsame, ce, hce, hO⟩ := X₁.ctorThrowS hexec htr (own := own) (cls := cls) (names := names) (ic := ic) hown' hcls hnames h (fun x hx => nomatch hx) hfX hkX hcellA (by rw [hhp, hT]; exact Nat.le_refl _) (msg := .ref sa) rfl
    (g := { method := m, pc := pc + 7, locals := ls, stack := .ref sa :: .ref T.heap.size :: .ref T.heap.size :: rest, locked := none }) rfl hsize rfl rfl (rest := rest) rfl
    (by rw [hb]; exact d7) (by rw [hb]; exact d10) hout hRframes (by simp only [List.map_cons, List.sum_cons, hcat]; omega) hlocks
  obtain ⟨f1, f2⟩ := vx_frame hsame
  rw [hhp] at f1 f2
  have hWs : s.WarmedH U.vm := State.WarmedH.trans hW0 hW
  have hcl : s.vm.findClass cls = some ce.cls := by
    have h9 := hO.cls
    rw [hvm] at h9
    exact h9
  have hall : s.sameButNew ({ U with vm := s.vm } : State) locs mc ms := by
    subst hA
    obtain ⟨e1, e2⟩ := hsame
    rw [State.setFrames_setFrames] at e1
    have h2 : (T.setVm s.vm).sameButNew ({ U with vm := s.vm } : State) [] (0 + 1) (0 + 6) := ⟨e1, e2⟩
    have h3 := X.same.trans h2
    rw [List.append_nil] at h3
    exact h3.mono hc hs
  refine ⟨U, ?_, .threw T.heap.size, hrun, hend, Or.inr ⟨T.heap.size, rfl, cls, ce, locs, hx U hWs.alike f1 (fun q hq => f2 q hq (fun z hz => nomatch hz)), hce, hO.vm, hcl, hWs, hall, hf⟩⟩
  refine st1 _ ?_
  show Steps p.tables e below (T1.setTop { method := m, pc := pc + 3, locals := ls, stack := .ref T.heap.size :: rest, locked := none }) _
  jvm_step X₁.here [X₁.here.top, hexec, d3', Value.category]
  exact X₁.ldcStringW hexec (own := own) (text := text) (index := is) (a := sa) hown' hstr'.1 hstr'.2
    (g := { method := m, pc := pc + 4, locals := ls, stack := .ref T.heap.size :: .ref T.heap.size :: rest, locked := none }) rfl d4' _ hsteps
end Ends
section Bodies
variable {l : Launch}
theorem vx_ofW {y : MethodName} {ws ws' : List Cond} {rm : Room} {Pc : Array Value → State → Prop} {Qc : Array Value → State → Outcome → State → Prop} {XC : String → State → State → Prop} {mc ms : Nat} {free : Addr → Prop} {cc : ByteArray} {maxL : Nat} {ret : Option FieldType}
    (hy : plainName y.cls = true) (hw : ws = Cond.code y cc maxL ret :: ws')
    (body : ∀ p e s m args below meth c s₁, BodyLoose p l y (headSpec ws rm) cc maxL ret e s m args below meth c s₁ → c.maxLocals = maxL → (∀ x ∈ c.exceptionTable.toList, False) → Pc args s →
      W p l e (headSpec ws rm).room s m args below meth c s.heap [] 0 0 (vx_MQ below Qc XC args s mc ms free) (entryFrame m args maxL)) : vx_Met l y ws rm Pc Qc XC mc ms free := by
  refine MetFree.of_bodyS (code := cc) (maxLocals := maxL) (ret := ret) hy ?_ ?_
  · intro args s m h hn
    obtain ⟨meth, c, h1, h2, h3, h4, h5, h6, -, -⟩ := Cond.code_spec hn (atoms_spec (ws := ws) h _ (by rw [hw]; exact List.mem_cons_self))
    exact ⟨meth, c, h1, h2, h3, h4, h5, h6⟩
  · intro p e s m args below meth c s₁ B hml hP _
    have hh0 : s₁.heap = s.heap := by rw [B.state]; rfl
    have ht : ∀ x ∈ c.exceptionTable.toList, False := by
      obtain ⟨meth9, c9, h1, h2, -, -, -, -, h7, -⟩ := Cond.code_spec B.named (atoms_spec (ws := ws) B.pre _ (by rw [hw]; exact List.mem_cons_self))
      cases Option.some.inj (h1.symm.trans B.method)
      cases Option.some.inj (h2.symm.trans (Stand.of_body B).code)
      intro x hx
      rw [Array.isEmpty_iff.mp h7] at hx
      cases hx
    obtain ⟨t, a1, o, b1, b2, b3⟩ := body p e s m args below meth c s₁ B hml ht hP s₁ hh0 (Stand.of_body B)
    exact ⟨t, o, a1, b1, b2, b3⟩
/-- the table of a body with handlers -/
theorem vx_table {p : Program} {x y : MethodName} {S : Spec} {cc bytes : ByteArray} {maxL maxL' : Nat} {ret ret' : Option FieldType} {e : Env} {s s₁ : State} {m : MethodId} {args : Array Value} {below : List Frame} {meth : Method} {c : Code} {hh : List (Nat × Nat × Nat × Nat)}
    (B : BodyLoose p l y S cc maxL ret e s m args below meth c s₁) (h : (Cond.codeWith y bytes maxL' ret' hh).before args s = true) : c.exceptionTable.toList = tableOf hh := by
  obtain ⟨m9, meth9, c9, hn9, h1, h2, -, -, h6, -⟩ := Cond.codeWith_spec h
  cases Option.some.inj (hn9.symm.trans B.named)
  cases Option.some.inj (h1.symm.trans B.method)
  cases Option.some.inj (h2.symm.trans (Stand.of_body B).code)
  rw [← h6, table_eq]
end Bodies
end VXA
/-! ===== END ===== -/
/-! ===== BEGIN a static call of a method with an exception table ===== -/
section VXS
variable {p : Program} {l : Launch} {e : Env} {R : Room} {s : State} {m : MethodId} {args : Array Value} {below : List Frame} {meth : Method} {c : Code} {T : State} {H : Heap} {locs : List Loc} {cells slots : Nat}
abbrev vx_CSW (R : Room) (s : State) (args : Array Value) (own : String) (index : Nat) (y : MethodName) (bytes : ByteArray) (maxL : Nat) (ret : Option FieldType) (hh : List (Nat × Nat × Nat × Nat)) (ws : List Cond) (rm : Room) (mc ms n : Nat) : Prop :=
  (rm.cells = mc ∧ rm.slots = ms ∧ rm.frames + 1 ≤ R.frames ∧ 8 + (maxL + 11) + rm.locals ≤ R.locals ∧ (∀ w ∈ ws, ∀ (a' : Array Value) (U : State), s.WarmedH U.vm → w.before a' U = true) ∧ Cond.codeWith y bytes maxL ret hh ∈ ws) ∧
  (Cond.codeWith y bytes maxL ret hh).before args s = true ∧ (Cond.initialized y.cls).before args s = true ∧ (y.cls ≠ "java/lang/invoke/MethodHandle" ∧ y.cls ≠ "java/lang/invoke/VarHandle") ∧
  (∀ sig, parseMethodDescriptor y.desc = some sig → n = sig.parameters.length) ∧ (Cond.methodLink own index y).before args s = true ∧ (Cond.static y).before args s = true
theorem vx_cwSW {own : String} {index maxL mc ms : Nat} {y : MethodName} {bytes : ByteArray} {ret : Option FieldType} {hh : List (Nat × Nat × Nat × Nat)} {Ts ws ws' : List Cond} {rm : Room} (n : Nat) (ht : ∀ w ∈ Ts, w.before args s = true) (hT : GoodIn Ts (va_wsS own index y ws)) (hw : ws = Cond.codeWith y bytes maxL ret hh :: ws') (hrc : rm.cells = mc) (hrs : rm.slots = ms)
    (hd : y.cls ≠ "java/lang/invoke/MethodHandle" ∧ y.cls ≠ "java/lang/invoke/VarHandle" ∧ (parseMethodDescriptor y.desc).map (fun d => d.parameters.length) = some n) (hR : rm.frames + 1 ≤ R.frames ∧ 8 + (maxL + 11) + rm.locals ≤ R.locals) :
    vx_CSW R s args own index y bytes maxL ret hh ws rm mc ms n := by
  have ok : ∀ w ∈ va_wsS own index y ws, w.before args s = true := fun w h => ht w (hT w h).1
  have hG : GoodIn Ts ws := fun w h => hT w (by unfold va_wsS; exact List.mem_append_right _ h)
  have hc : Cond.codeWith y bytes maxL ret hh ∈ ws := by rw [hw]; exact List.mem_cons_self
  refine ⟨⟨hrc, hrs, hR.1, hR.2, pay_in ht hG, hc⟩, ht _ (hG _ hc).1, ok _ (by simp [va_wsS]), ⟨hd.1, hd.2.1⟩, fun sig h => ?_, ok _ (by simp [va_wsS]), ok _ (by simp [va_wsS])⟩
  have h2 := hd.2.2
  rw [h] at h2
  exact (Option.some.inj h2).symm
theorem vx_callSW (X : Stand p l e R s m args below meth c T locs cells slots) (hexec : p.tables.exec = Jvm.exec) {own : String} {index : Nat} {y : MethodName} {bytes : ByteArray} {maxL : Nat} {ret : Option FieldType} {hh : List (Nat × Nat × Nat × Nat)}
    (hown : s.vm.findClass own = some m.cls) (hlink : (Cond.methodLink own index y).before args s = true) (hstat : (Cond.static y).before args s = true) (hinit : (Cond.initialized y.cls).before args s = true)
    (hcode : (Cond.codeWith y bytes maxL ret hh).before args s = true) (hy : y.cls ≠ "java/lang/invoke/MethodHandle" ∧ y.cls ≠ "java/lang/invoke/VarHandle")
    {W9 : Nat} {Pre : Pt → Array Value → Prop} {Post : Pt → Array Value → Option Value → Pt → Prop} (hK : Back l R p e below s args y 3 W9 Pre Post)
    {g : JFrame} (hg : g.method = m) (hsize : g.locals.size = c.maxLocals) {argsL rest : List Value} (hlen : ∀ sig, parseMethodDescriptor y.desc = some sig → argsL.length = sig.parameters.length)
    (hstack : g.stack = argsL.reverse ++ rest) (hW : 2 * g.monitorRoom + (rest.map fun v => v.category).sum ≤ W9) (hdg : decode c.code g.pc = .ok (.invokestatic index, 3))
    (hpre : ∀ vm₁, s.WarmedH vm₁ → Pre ⟨T.setVm vm₁, locs, cells, slots⟩ argsL.toArray) :
    ∃ (v : Option Value) (vm₁ : Vm) (B : Pt), s.WarmedH vm₁ ∧ Stand p l e R s m args below meth c B.U B.locs B.cells B.slots ∧ Post ⟨T.setVm vm₁, locs, cells, slots⟩ argsL.toArray v B ∧
      ∀ target, Steps p.tables e below (B.U.setTop { g with pc := g.pc + 3, stack := v.toList ++ rest }) target → Steps p.tables e below (T.setTop g) target := by
  obtain ⟨mk, methM, cM, hnamed, hmethM, -, -, -, -, -, -, hsigM⟩ := Cond.codeWith_spec hcode
  have hstatic : methM.isStatic = true := Cond.static_spec hnamed hmethM hstat
  obtain ⟨kP, hkP, -⟩ := className_of_methodNamed hnamed
  have hinitP : kP.init = .initialized := Cond.initialized_spec (findClass_of_methodNamed hnamed) hkP hinit
  obtain ⟨vm₁, X₁, hstep₁⟩ := X.invokestatic hexec hown hlink hnamed hmethM hstatic hkP hinitP hy (g := g) hg (argsL := argsL) (rest := rest) (hlen _ hsigM) hstack hdg
  obtain ⟨v, B, X', hpost, hsteps⟩ := hK m meth c ⟨T.setVm vm₁, locs, cells, slots⟩ { g with stack := rest } (.invokestatic index) mk argsL.toArray X₁ hg hsize hdg hW (X₁.named hnamed) (hpre vm₁ X₁.warmed)
  exact ⟨v, vm₁, B, X₁.warmed, X', hpost, fun target h => hstep₁ _ fun acts => by rw [doInvoke_state]; exact hsteps.trans h⟩
theorem vx_runSW {y : MethodName} {bytes cc : ByteArray} {maxL nL mc ms n index : Nat} {ret : Option FieldType} {hh : List (Nat × Nat × Nat × Nat)} {ws : List Cond} {rm : Room} {Pc : Array Value → State → Prop} {Qc : Array Value → State → Outcome → State → Prop} {free : Addr → Prop} {Ts : List Cond} {own : String} {As rest : List Value} {g : JFrame}
    (S : CallFix p m c cc nL s args Ts own) (hM : Met l y ws rm Pc Qc mc ms free) (cw : vx_CSW R s args own index y bytes maxL ret hh ws rm mc ms n) (hp : PreS s H Pc As)
    (hg : g.method = m) (hn : As.length = n) (hsize : g.locals.size = nL) (hstack : g.stack = As.reverse ++ rest) (hW : 2 * g.monitorRoom + (rest.map fun v => v.category).sum ≤ 8) (hdg : decode cc g.pc = .ok (.invokestatic index, 3)) (hf : cells + mc ≤ R.cells ∧ slots + ms ≤ R.slots) :
    va_Run p l e R s m args below meth c H locs cells slots mc ms g rest (Qc As.toArray) (free) := by
  obtain ⟨⟨hrc, hrs, hfr, hlo, hws, hcw⟩, hcode, hini, hy, hlen, hl, hstt⟩ := cw
  have hK : Back l R p e below s args y 3 8 (PreOf R mc ms Pc) (PostOf Qc mc ms free) := va_backW (hh := hh) (bytes := bytes) (maxL := maxL) (ret := ret) hM hp.1 hrc hrs hfr hlo hws hcw (fun a' U hW => word_at hW (Or.inl (by first | rfl | simp [Cond.onTables, Cond.keeps, Cond.steady])) hini)
  obtain ⟨hx, hb, hml, ho, -⟩ := S
  intro T hT X
  obtain ⟨v, vm₁, ⟨U', l2, c2, s2⟩, hW₁, X', ⟨g', mk, t, L, e1, e2, hq, h1, hL, h2, h3⟩, st⟩ := vx_callSW X hx (hh := hh) (bytes := bytes) (maxL := maxL) (ret := ret) ho hl hstt hini hcode hy hK hg (hsize.trans hml.symm) (argsL := As) (rest := rest) (fun sig h => hn.trans (hlen sig h)) hstack hW (by rw [hb]; exact hdg)
    (fun vm₁ hW₁ => ⟨hf.1, hf.2, hp.2 (T.setVm vm₁) hT hW₁⟩)
  dsimp only [Pt.U, Pt.locs, Pt.cells, Pt.slots] at X' e1 e2 h1 h2 h3 st
  subst h1; subst h2; subst h3
  exact ⟨v, (T.setVm vm₁).calling g' mk As.toArray, t, U', L, hT, X', hL, e1, e2, hq, st⟩
/-- not caught here, past rows that name other classes: it goes on to the caller -/
theorem vx_outP {p : Program} {l : Launch} {e : Env} {R : Room} {s : State} {m : MethodId} {args : Array Value} {below : List Frame} {meth : Method} {c : Code} {H : Heap} {locs : List Loc} {cells slots : Nat} {free : Addr → Prop} {ls : Array Slot} {rest : List Value} {Qc : Array Value → State → Outcome → State → Prop} {XC : String → State → State → Prop}
    {pc : Nat} {own E : String} {ce : Cell} {q : Addr} {mc ms : Nat} (hown : s.vm.findClass own = some m.cls) (hlocks : meth.locks = false)
    (hpass : ∀ z ∈ c.exceptionTable.toList, covers z pc = false ∨ (z.catchType ≠ 0 ∧ ∃ nm : String, (Cond.classLink own z.catchType nm).before args s = true ∧ va_Nc E nm s)) (hcell : H[q]? = some ce) (hv : ce.vm = .none) (hcl : s.vm.findClass E = some ce.cls)
    (hx : ∀ t : State, t.heap = H → s.vm.Alike t.vm → XC E s t) (hf : ∀ z ∈ locs, free z.base) (hc : cells ≤ mc) (hs : slots ≤ ms) :
    vx_W p l e R s m args below meth c H locs cells slots (vx_MQ below Qc XC args s mc ms free) (F0 m pc ls rest) q := by
  intro T hT X
  have hpl : e.platform.magicAccessors = ({} : Platform).magicAccessors := by rw [X.admits.platform]
  obtain ⟨vm', hW', X', st⟩ := X.outThrough hlocks q (g := F0 m pc ls rest) rfl rfl rfl (cell := ce) (by rw [hT]; exact hcell) (by rw [hv]; rfl)
    (by obtain ⟨k9, h9, -⟩ := Vm.findClass_spec hcl; exact ⟨k9, h9⟩) (fun z hz => by
      rcases hpass z hz with h | ⟨hz0, nm, hl1, hn1⟩
      · exact Or.inl h
      · obtain ⟨c6, hc6, hcl6⟩ := Cond.classLink_spec hown hl1 e.platform hpl
        obtain ⟨a8, b8, h1, h2, h3⟩ := hn1
        cases Option.some.inj (h1.symm.trans hcl)
        cases Option.some.inj (h2.symm.trans hc6)
        exact Or.inr ⟨hz0, _, hcl6, h3⟩)
  obtain ⟨g₀, hfr⟩ := X'.frames_eq
  have hcell9 : ((T.setVm vm').setFrames (.throwing q :: below)).heap[q]? = some ce := by
    show T.heap[q]? = some ce
    rw [hT]; exact hcell
  have hend : Ended ((T.setVm vm').setFrames (.throwing q :: below)) below (.threw q) := State.frames_setFrames _ (State.cur_lt_of_frames hfr)
  refine ⟨(T.setVm vm').setFrames (.throwing q :: below), ?_, .threw q, X'.here.running, hend, Or.inr ⟨q, rfl, E, ce, locs, hx _ hT (X'.ends _).1.alike, hcell9, hv, hcl, (X'.ends _).1, (X'.ends _).2.mono hc hs, hf⟩⟩
  rw [X.pushThrowing_eq]
  exact st
/-- a thing of a world lies in the heap -/
theorem vx_lt {D : va_G} {cl : List vw_C} {ws : va_W} {H1 : Heap} (h : va_P D cl ws H1) {k : Nat} {q : Nat × va_E} (hk : ws[k]? = some q) : q.1 < H1.size := (h k q hk).lt
end VXS
/-! ===== END ===== -/
/-! ===== BEGIN methods with a table of their own: called by a name, returning or throwing ===== -/
section VXH
/-! vx_backW, vx_callVX, vx_callSX, vx_callVW, vx_runVW, vx_runVX, vx_runSX, vx_ofWH follow the same proofs as their sisters above (Free/Laws.lean, Shelf42/LK1.lean); vx_outP calls Shelf42/NT130.lean (outThrough). -/
section
variable {l : Launch} {R : Room} {p : Program} {e : Env} {below : List Frame} {s : State} {sargs : Array Value} {y : MethodName} {len W9 : Nat}
theorem vx_backW {ws : List Cond} {rm : Room} {Pc : Array Value → State → Prop} {Qc : Array Value → State → Outcome → State → Prop} {XC : String → State → State → Prop} {mc ms : Nat} {free : Addr → Prop} {bytes : ByteArray} {maxL : Nat} {ret : Option FieldType} {hh : List (Nat × Nat × Nat × Nat)}
    (hM : vx_Met l y ws rm Pc Qc XC mc ms free) (hblind : FrameBlind Pc) (hrc : rm.cells = mc) (hrs : rm.slots = ms)
    (hframes : rm.frames + 1 ≤ R.frames) (hlocals : W9 + (maxL + 11) + rm.locals ≤ R.locals)
    (hws : ∀ w ∈ ws, ∀ a' U, s.WarmedH U.vm → w.before a' U = true) (hcode : Cond.codeWith y bytes maxL ret hh ∈ ws) (hinit : ∀ a' U, s.WarmedH U.vm → (Cond.initialized y.cls).before a' U = true) :
    vx_Back l R p e below s sargs y len W9 (PreOf R mc ms Pc) (PostOf Qc mc ms free) (vx_Post XC mc ms free) := by
  intro m meth c A g ig mk a X hg hsize hdg hW hn hp
  have h1 : (headSpec ws rm).pre.before a A.U = true := atoms_intro fun w hw => hws w hw _ _ X.warmed
  have h2 : (Cond.codeWith y bytes maxL ret hh).before a A.U = true := hws _ hcode _ _ X.warmed
  have h3 : (Cond.initialized y.cls).before a A.U = true := hinit _ _ X.warmed
  have h4 : A.cells + (headSpec ws rm).room.cells ≤ R.cells := by rw [show (headSpec ws rm).room.cells = mc from hrc]; exact hp.1
  have h5 : A.slots + (headSpec ws rm).room.slots ≤ R.slots := by rw [show (headSpec ws rm).room.slots = ms from hrs]; exact hp.2.1
  have hPc : Pc a (A.U.calling g mk a) := hblind _ _ _ _ hp.2.2
  obtain ⟨U, Ls, c0, s0⟩ := A
  dsimp only [Pt.U, Pt.locs, Pt.cells, Pt.slots] at h1 h2 h3 h4 h5 X hn hPc ⊢
  obtain ⟨m9, methY, cY, hn9, hmY, hcY, -, hlY, -⟩ := Cond.codeWith_spec h2
  cases Option.some.inj (hn9.symm.trans hn)
  obtain ⟨kY, hkY, -⟩ := className_of_methodNamed hn
  have hinitY : kY.init = .initialized := Cond.initialized_spec (findClass_of_methodNamed hn) hkY h3
  have h : At U g.method c below := by rw [hg]; exact X.here
  have hlocals9 : W9 + (maxL + 11) + (headSpec ws rm).room.locals ≤ R.locals := hlocals
  have happ : (headSpec ws rm).appliesLoose y e.platform (U.calling g mk a) = true :=
    Spec.appliesLoose_calling (g := g) h hdg hn hkY hinitY
      (X.room_calling (g := g) (R' := (headSpec ws rm).room) hsize hmY hcY hframes (by rw [hlY]; omega) h4 h5) h1
  obtain ⟨mid, hmid⟩ := h.above
  have hfr : (U.setTop g).frames = (.java g :: mid) ++ below := by rw [State.frames_setTop' g h.top, hmid]; rfl
  obtain ⟨o, s₂, hsteps, -, hend, hq⟩ := Steps.callFree hM p X.admits X.cas X.clock (acts := []) hfr happ hPc trivial
  have hq' : vx_Q Qc XC mc ms free a (U.calling g mk a) o s₂ := hq
  rw [State.frames_setTop' g h.top] at hend
  obtain ⟨g₀, hg0⟩ := Option.isSome_iff_exists.mp h.top
  obtain ⟨r, hr⟩ := State.topJava?_eq_some.mp hg0
  have hr' : (({ U with heap := s₂.heap, slotsUsed := s₂.slotsUsed } : State).setVm s₂.vm).frames = .java g₀ :: r := hr
  rcases hq' with ⟨hqc, L, hfe, hL⟩ | ⟨q, rfl, E, ce, L, hx, hce, hcv, hcl, hW₂, hsm, hL⟩
  · obtain ⟨⟨v, rfl⟩, hW₂, e2, q2, q3, q4, q5, q6⟩ := id hfe
    have e3 : s₂ = ({ (U.calling g mk a).setFrames s₂.frames with heap := s₂.heap, slotsUsed := s₂.slotsUsed } : State).setVm s₂.vm := by
      have : s₂ = ({ s₂ with vm := (U.calling g mk a).vm } : State).setVm s₂.vm := rfl
      rw [e2] at this
      exact this
    obtain ⟨c₂, i₂, len₂, hc₂, hd₂, hf₂⟩ := hend
    have hW' : U.WarmedH s₂.vm := hW₂
    have hcc : c₂ = c := by
      have h1 : s₂.code? g.method = U.code? g.method := by
        rw [State.code?_eq, State.code?_eq, hW'.alike.method?]
      exact Option.some.inj (hc₂.symm.trans (h1.trans h.code))
    subst hcc
    have hlen : len₂ = len := by rw [hdg] at hd₂; cases hd₂; rfl
    subst hlen
    have hs₂ : s₂ = (({ U with heap := s₂.heap, slotsUsed := s₂.slotsUsed } : State).setVm s₂.vm).setTop { g with pc := g.pc + len₂, stack := v.toList ++ g.stack } := by
      refine e3.trans ?_
      rw [hf₂, State.calling_eq h.top, State.setFrames_setFrames, State.setTop_of_frames _ hr', hr]
      rfl
    have hsame : U.sameButNew ({ U with heap := s₂.heap, slotsUsed := s₂.slotsUsed } : State) L mc ms := by
      refine ⟨?_, q2, q3, q4, q5, q6⟩
      obtain ⟨t, ht, -⟩ := State.frames_cons hr
      show ({ U with heap := s₂.heap, slotsUsed := s₂.slotsUsed } : State) = { U.setFrames U.frames with heap := s₂.heap, slotsUsed := s₂.slotsUsed }
      rw [State.setFrames_self ht]
    subst hg
    refine Or.inl ⟨v, ⟨(({ U with heap := s₂.heap, slotsUsed := s₂.slotsUsed } : State).setVm s₂.vm), Ls ++ L, c0 + mc, s0 + ms⟩,
      ⟨X.admits, X.cas, X.clock, X.frames, X.room, X.hears, X.method, X.code, (X.here.setHeapUsed s₂.heap s₂.slotsUsed).setVm hW'.alike, X.tail, State.WarmedH.trans X.warmed hW', X.limits, X.bytes, X.same.trans (hsame.setVm s.vm)⟩,
      ⟨g, mk, s₂, L, rfl, rfl, hqc, rfl, hL, rfl, rfl⟩, ?_⟩
    show Steps p.tables e below _ ((({ U with heap := s₂.heap, slotsUsed := s₂.slotsUsed } : State).setVm s₂.vm).setTop { g with pc := g.pc + len₂, stack := v.toList ++ g.stack })
    rw [← hs₂]
    exact hsteps
  · obtain ⟨e2, q2, q3, q4, q5, q6⟩ := id hsm
    have e3 : s₂ = ({ (U.calling g mk a).setFrames s₂.frames with heap := s₂.heap, slotsUsed := s₂.slotsUsed } : State).setVm s₂.vm := by
      have : s₂ = ({ s₂ with vm := (U.calling g mk a).vm } : State).setVm s₂.vm := rfl
      rw [e2] at this
      exact this
    have hf₂ : s₂.frames = .throwing q :: .java g :: U.frames.tail := hend
    have hW' : U.WarmedH s₂.vm := hW₂
    have hs₂ : s₂ = ((({ U with heap := s₂.heap, slotsUsed := s₂.slotsUsed } : State).setVm s₂.vm).setTop g).pushFrame (.throwing q) := by
      refine e3.trans ?_
      rw [hf₂, State.calling_eq h.top, State.setFrames_setFrames, State.pushFrame, State.frames_setTop _ hr', State.setTop_of_frames _ hr', State.setFrames_setFrames, hr]
      rfl
    have hsame : U.sameButNew ({ U with heap := s₂.heap, slotsUsed := s₂.slotsUsed } : State) L mc ms := by
      refine ⟨?_, q2, q3, q4, q5, q6⟩
      obtain ⟨t, ht, -⟩ := State.frames_cons hr
      show ({ U with heap := s₂.heap, slotsUsed := s₂.slotsUsed } : State) = { U.setFrames U.frames with heap := s₂.heap, slotsUsed := s₂.slotsUsed }
      rw [State.setFrames_self ht]
    subst hg
    refine Or.inr ⟨q, ⟨(({ U with heap := s₂.heap, slotsUsed := s₂.slotsUsed } : State).setVm s₂.vm), Ls ++ L, c0 + mc, s0 + ms⟩,
      ⟨X.admits, X.cas, X.clock, X.frames, X.room, X.hears, X.method, X.code, (X.here.setHeapUsed s₂.heap s₂.slotsUsed).setVm hW'.alike, X.tail, State.WarmedH.trans X.warmed hW', X.limits, X.bytes, X.same.trans (hsame.setVm s.vm)⟩,
      ⟨g, mk, s₂, L, E, ce, rfl, rfl, hx, hce, hcv, hcl, rfl, hL, rfl, rfl⟩, ?_⟩
    show Steps p.tables e below _ (((({ U with heap := s₂.heap, slotsUsed := s₂.slotsUsed } : State).setVm s₂.vm).setTop g).pushFrame (.throwing q))
    rw [← hs₂]
    exact hsteps
end
variable {p : Program} {l : Launch} {e : Env} {R : Room} {s : State} {m : MethodId} {args : Array Value} {below : List Frame} {meth : Method} {c : Code} {T : State} {H : Heap} {locs : List Loc} {cells slots : Nat}
theorem vx_callVX (X : Stand p l e R s m args below meth c T locs cells slots) (hexec : p.tables.exec = Jvm.exec) {own C : String} {index : Nat} {y : MethodName} {bytes : ByteArray} {maxL : Nat} {ret : Option FieldType} {hh : List (Nat × Nat × Nat × Nat)}
    (hown : s.vm.findClass own = some m.cls) (hlink : (Cond.methodLink own index y).before args s = true) (hinst : (Cond.instanceMethod y).before args s = true) (hsel : (Cond.selects C y y).before args s = true)
    (hcode : (Cond.codeWith y bytes maxL ret hh).before args s = true) (hy : y.cls ≠ "java/lang/invoke/MethodHandle" ∧ y.cls ≠ "java/lang/invoke/VarHandle")
    {W9 : Nat} {Pre : Pt → Array Value → Prop} {Post : Pt → Array Value → Option Value → Pt → Prop} {PostX : Pt → Array Value → Addr → Pt → Prop} (hK : vx_Back l R p e below s args y 3 W9 Pre Post PostX)
    {b : Addr} {cellB : Cell} (hcell : T.heap[b]? = some cellB) (hobj : cellB.vm.isStatics = false) (hcls : s.vm.findClass C = some cellB.cls)
    {g : JFrame} (hg : g.method = m) (hsize : g.locals.size = c.maxLocals) {argsL rest : List Value} (hlen : ∀ sig, parseMethodDescriptor y.desc = some sig → argsL.length = sig.parameters.length)
    (hstack : g.stack = argsL.reverse ++ .ref b :: rest) (hW : 2 * g.monitorRoom + (rest.map fun v => v.category).sum ≤ W9) (hdg : decode c.code g.pc = .ok (.invokevirtual index, 3))
    (hpre : ∀ vm₁, s.WarmedH vm₁ → Pre ⟨T.setVm vm₁, locs, cells, slots⟩ (Value.ref b :: argsL).toArray) :
    (∃ (v : Option Value) (vm₁ : Vm) (B : Pt), s.WarmedH vm₁ ∧ Stand p l e R s m args below meth c B.U B.locs B.cells B.slots ∧ Post ⟨T.setVm vm₁, locs, cells, slots⟩ (Value.ref b :: argsL).toArray v B ∧
      ∀ target, Steps p.tables e below (B.U.setTop { g with pc := g.pc + 3, stack := v.toList ++ rest }) target → Steps p.tables e below (T.setTop g) target) ∨
    (∃ (q : Addr) (vm₁ : Vm) (B : Pt), s.WarmedH vm₁ ∧ Stand p l e R s m args below meth c B.U B.locs B.cells B.slots ∧ PostX ⟨T.setVm vm₁, locs, cells, slots⟩ (Value.ref b :: argsL).toArray q B ∧
      Steps p.tables e below (T.setTop g) ((B.U.setTop { g with stack := rest }).pushFrame (.throwing q))) := by
  obtain ⟨mk, methM, hnamed, hmethM, hstM, habM⟩ := Cond.instanceMethod_spec hinst
  obtain ⟨m8, methM', cM, hn8, hmethM', -, -, -, -, -, -, hsigM⟩ := Cond.codeWith_spec hcode
  cases Option.some.inj (hn8.symm.trans hnamed)
  cases hmethM.symm.trans hmethM'
  obtain ⟨c2, r2, m2, q1, q2, q3, q4, kP, hkP, hkPi⟩ := Cond.selects_spec hsel
  cases hcls.symm.trans q1
  cases (State.methodFound?_of_named hnamed hy).symm.trans q2
  cases hnamed.symm.trans q3
  have hselP : selectMethod e.platform s.vm cellB.cls mk = .method mk := by rw [Launch.admits_selectMethod X.admits]; exact q4
  obtain ⟨vm₁, X₁, hstep₁⟩ := X.invokevirtual hexec hown hlink hnamed hmethM hstM hkP hkPi hy (a := b) (cell := cellB) hcell
    (fun z h => by rw [h] at hobj; cases hobj) hselP hmethM habM hkP hkPi (g := g) hg (argsL := argsL) (rest := rest) (hlen _ hsigM) hstack hdg
  rcases hK m meth c ⟨T.setVm vm₁, locs, cells, slots⟩ { g with stack := rest } (.invokevirtual index) mk (Value.ref b :: argsL).toArray X₁ hg hsize hdg hW (X₁.named hnamed) (hpre vm₁ X₁.warmed) with ⟨v, B, X', hpost, hsteps⟩ | ⟨q, B, X', hpost, hsteps⟩
  · exact Or.inl ⟨v, vm₁, B, X₁.warmed, X', hpost, fun target h => hstep₁ _ fun acts => by rw [doInvoke_state]; exact hsteps.trans h⟩
  · exact Or.inr ⟨q, vm₁, B, X₁.warmed, X', hpost, hstep₁ _ fun acts => by rw [doInvoke_state]; exact hsteps⟩
theorem vx_callSX (X : Stand p l e R s m args below meth c T locs cells slots) (hexec : p.tables.exec = Jvm.exec) {own : String} {index : Nat} {y : MethodName} {bytes : ByteArray} {maxL : Nat} {ret : Option FieldType} {hh : List (Nat × Nat × Nat × Nat)}
    (hown : s.vm.findClass own = some m.cls) (hlink : (Cond.methodLink own index y).before args s = true) (hstat : (Cond.static y).before args s = true) (hinit : (Cond.initialized y.cls).before args s = true)
    (hcode : (Cond.codeWith y bytes maxL ret hh).before args s = true) (hy : y.cls ≠ "java/lang/invoke/MethodHandle" ∧ y.cls ≠ "java/lang/invoke/VarHandle")
    {W9 : Nat} {Pre : Pt → Array Value → Prop} {Post : Pt → Array Value → Option Value → Pt → Prop} {PostX : Pt → Array Value → Addr → Pt → Prop} (hK : vx_Back l R p e below s args y 3 W9 Pre Post PostX)
    {g : JFrame} (hg : g.method = m) (hsize : g.locals.size = c.maxLocals) {argsL rest : List Value} (hlen : ∀ sig, parseMethodDescriptor y.desc = some sig → argsL.length = sig.parameters.length)
    (hstack : g.stack = argsL.reverse ++ rest) (hW : 2 * g.monitorRoom + (rest.map fun v => v.category).sum ≤ W9) (hdg : decode c.code g.pc = .ok (.invokestatic index, 3))
    (hpre : ∀ vm₁, s.WarmedH vm₁ → Pre ⟨T.setVm vm₁, locs, cells, slots⟩ argsL.toArray) :
    (∃ (v : Option Value) (vm₁ : Vm) (B : Pt), s.WarmedH vm₁ ∧ Stand p l e R s m args below meth c B.U B.locs B.cells B.slots ∧ Post ⟨T.setVm vm₁, locs, cells, slots⟩ argsL.toArray v B ∧
      ∀ target, Steps p.tables e below (B.U.setTop { g with pc := g.pc + 3, stack := v.toList ++ rest }) target → Steps p.tables e below (T.setTop g) target) ∨
    (∃ (q : Addr) (vm₁ : Vm) (B : Pt), s.WarmedH vm₁ ∧ Stand p l e R s m args below meth c B.U B.locs B.cells B.slots ∧ PostX ⟨T.setVm vm₁, locs, cells, slots⟩ argsL.toArray q B ∧
      Steps p.tables e below (T.setTop g) ((B.U.setTop { g with stack := rest }).pushFrame (.throwing q))) := by
  obtain ⟨mk, methM, cM, hnamed, hmethM, -, -, -, -, -, -, hsigM⟩ := Cond.codeWith_spec hcode
  have hstatic : methM.isStatic = true := Cond.static_spec hnamed hmethM hstat
  obtain ⟨kP, hkP, -⟩ := className_of_methodNamed hnamed
  have hinitP : kP.init = .initialized := Cond.initialized_spec (findClass_of_methodNamed hnamed) hkP hinit
  obtain ⟨vm₁, X₁, hstep₁⟩ := X.invokestatic hexec hown hlink hnamed hmethM hstatic hkP hinitP hy (g := g) hg (argsL := argsL) (rest := rest) (hlen _ hsigM) hstack hdg
  rcases hK m meth c ⟨T.setVm vm₁, locs, cells, slots⟩ { g with stack := rest } (.invokestatic index) mk argsL.toArray X₁ hg hsize hdg hW (X₁.named hnamed) (hpre vm₁ X₁.warmed) with ⟨v, B, X', hpost, hsteps⟩ | ⟨q, B, X', hpost, hsteps⟩
  · exact Or.inl ⟨v, vm₁, B, X₁.warmed, X', hpost, fun target h => hstep₁ _ fun acts => by rw [doInvoke_state]; exact hsteps.trans h⟩
  · exact Or.inr ⟨q, vm₁, B, X₁.warmed, X', hpost, hstep₁ _ fun acts => by rw [doInvoke_state]; exact hsteps⟩
theorem vx_callVW (X : Stand p l e R s m args below meth c T locs cells slots) (hexec : p.tables.exec = Jvm.exec) {own C : String} {index : Nat} {y : MethodName} {bytes : ByteArray} {maxL : Nat} {ret : Option FieldType} {hh : List (Nat × Nat × Nat × Nat)}
    (hown : s.vm.findClass own = some m.cls) (hlink : (Cond.methodLink own index y).before args s = true) (hinst : (Cond.instanceMethod y).before args s = true) (hsel : (Cond.selects C y y).before args s = true)
    (hcode : (Cond.codeWith y bytes maxL ret hh).before args s = true) (hy : y.cls ≠ "java/lang/invoke/MethodHandle" ∧ y.cls ≠ "java/lang/invoke/VarHandle")
    {W9 : Nat} {Pre : Pt → Array Value → Prop} {Post : Pt → Array Value → Option Value → Pt → Prop} (hK : Back l R p e below s args y 3 W9 Pre Post)
    {b : Addr} {cellB : Cell} (hcell : T.heap[b]? = some cellB) (hobj : cellB.vm.isStatics = false) (hcls : s.vm.findClass C = some cellB.cls)
    {g : JFrame} (hg : g.method = m) (hsize : g.locals.size = c.maxLocals) {argsL rest : List Value} (hlen : ∀ sig, parseMethodDescriptor y.desc = some sig → argsL.length = sig.parameters.length)
    (hstack : g.stack = argsL.reverse ++ .ref b :: rest) (hW : 2 * g.monitorRoom + (rest.map fun v => v.category).sum ≤ W9) (hdg : decode c.code g.pc = .ok (.invokevirtual index, 3))
    (hpre : ∀ vm₁, s.WarmedH vm₁ → Pre ⟨T.setVm vm₁, locs, cells, slots⟩ (Value.ref b :: argsL).toArray) :
    ∃ (v : Option Value) (vm₁ : Vm) (B : Pt), s.WarmedH vm₁ ∧ Stand p l e R s m args below meth c B.U B.locs B.cells B.slots ∧ Post ⟨T.setVm vm₁, locs, cells, slots⟩ (Value.ref b :: argsL).toArray v B ∧
      ∀ target, Steps p.tables e below (B.U.setTop { g with pc := g.pc + 3, stack := v.toList ++ rest }) target → Steps p.tables e below (T.setTop g) target := by
  obtain ⟨mk, methM, hnamed, hmethM, hstM, habM⟩ := Cond.instanceMethod_spec hinst
  obtain ⟨m8, methM', cM, hn8, hmethM', -, -, -, -, -, -, hsigM⟩ := Cond.codeWith_spec hcode
  cases Option.some.inj (hn8.symm.trans hnamed)
  cases hmethM.symm.trans hmethM'
  obtain ⟨c2, r2, m2, q1, q2, q3, q4, kP, hkP, hkPi⟩ := Cond.selects_spec hsel
  cases hcls.symm.trans q1
  cases (State.methodFound?_of_named hnamed hy).symm.trans q2
  cases hnamed.symm.trans q3
  have hselP : selectMethod e.platform s.vm cellB.cls mk = .method mk := by rw [Launch.admits_selectMethod X.admits]; exact q4
  obtain ⟨vm₁, X₁, hstep₁⟩ := X.invokevirtual hexec hown hlink hnamed hmethM hstM hkP hkPi hy (a := b) (cell := cellB) hcell
    (fun z h => by rw [h] at hobj; cases hobj) hselP hmethM habM hkP hkPi (g := g) hg (argsL := argsL) (rest := rest) (hlen _ hsigM) hstack hdg
  obtain ⟨v, B, X', hpost, hsteps⟩ := hK m meth c ⟨T.setVm vm₁, locs, cells, slots⟩ { g with stack := rest } (.invokevirtual index) mk (Value.ref b :: argsL).toArray X₁ hg hsize hdg hW (X₁.named hnamed) (hpre vm₁ X₁.warmed)
  exact ⟨v, vm₁, B, X₁.warmed, X', hpost, fun target h => hstep₁ _ fun acts => by rw [doInvoke_state]; exact hsteps.trans h⟩
abbrev vx_CVW (R : Room) (s : State) (args : Array Value) (own C : String) (index : Nat) (y : MethodName) (bytes : ByteArray) (maxL : Nat) (ret : Option FieldType) (hh : List (Nat × Nat × Nat × Nat)) (ws : List Cond) (rm : Room) (mc ms n : Nat) : Prop :=
  (rm.cells = mc ∧ rm.slots = ms ∧ rm.frames + 1 ≤ R.frames ∧ 8 + (maxL + 11) + rm.locals ≤ R.locals ∧ (∀ w ∈ ws, ∀ (a' : Array Value) (U : State), s.WarmedH U.vm → w.before a' U = true) ∧ Cond.codeWith y bytes maxL ret hh ∈ ws) ∧
  (Cond.codeWith y bytes maxL ret hh).before args s = true ∧ (Cond.initialized y.cls).before args s = true ∧ (y.cls ≠ "java/lang/invoke/MethodHandle" ∧ y.cls ≠ "java/lang/invoke/VarHandle") ∧
  (∀ sig, parseMethodDescriptor y.desc = some sig → n = sig.parameters.length) ∧ (Cond.methodLink own index y).before args s = true ∧ (Cond.instanceMethod y).before args s = true ∧ (Cond.selects C y y).before args s = true
theorem vx_cwVW {own C : String} {index maxL mc ms : Nat} {y : MethodName} {bytes : ByteArray} {ret : Option FieldType} {hh : List (Nat × Nat × Nat × Nat)} {Ts ws ws' : List Cond} {rm : Room} (n : Nat) (ht : ∀ w ∈ Ts, w.before args s = true) (hT : GoodIn Ts (wsV own index C y ws)) (hw : ws = Cond.codeWith y bytes maxL ret hh :: ws') (hrc : rm.cells = mc) (hrs : rm.slots = ms)
    (hd : y.cls = C ∧ y.cls ≠ "java/lang/invoke/MethodHandle" ∧ y.cls ≠ "java/lang/invoke/VarHandle" ∧ (parseMethodDescriptor y.desc).map (fun d => d.parameters.length) = some n) (hR : rm.frames + 1 ≤ R.frames ∧ 8 + (maxL + 11) + rm.locals ≤ R.locals) :
    vx_CVW R s args own C index y bytes maxL ret hh ws rm mc ms n := by
  obtain ⟨hC, hd⟩ := hd
  subst hC
  have ok : ∀ w ∈ wsV own index y.cls y ws, w.before args s = true := fun w h => ht w (hT w h).1
  have hG : GoodIn Ts ws := fun w h => hT w (by unfold wsV; exact List.mem_append_right _ h)
  have hc : Cond.codeWith y bytes maxL ret hh ∈ ws := by rw [hw]; exact List.mem_cons_self
  refine ⟨⟨hrc, hrs, hR.1, hR.2, pay_in ht hG, hc⟩, ht _ (hG _ hc).1, ok _ (by simp [wsV]), ⟨hd.1, hd.2.1⟩, fun sig h => ?_, ok _ (by simp [wsV]), ok _ (by simp [wsV]), ok _ (by simp [wsV])⟩
  have h2 := hd.2.2
  rw [h] at h2
  exact (Option.some.inj h2).symm
theorem vx_runVW {y : MethodName} {bytes cc : ByteArray} {maxL nL mc ms n index : Nat} {ret : Option FieldType} {hh : List (Nat × Nat × Nat × Nat)} {ws : List Cond} {rm : Room} {Pc : Array Value → State → Prop} {Qc : Array Value → State → Outcome → State → Prop} {free : Addr → Prop} {Ts : List Cond} {own C : String} {b : Addr} {As rest : List Value} {g : JFrame}
    (S : CallFix p m c cc nL s args Ts own) (hM : Met l y ws rm Pc Qc mc ms free) (cw : vx_CVW R s args own C index y bytes maxL ret hh ws rm mc ms n) (hp : PreV s H C b Pc As)
    (hg : g.method = m) (hn : As.length = n) (hsize : g.locals.size = nL) (hstack : g.stack = As.reverse ++ .ref b :: rest) (hW : 2 * g.monitorRoom + (rest.map fun v => v.category).sum ≤ 8) (hdg : decode cc g.pc = .ok (.invokevirtual index, 3)) (hf : cells + mc ≤ R.cells ∧ slots + ms ≤ R.slots) :
    va_Run p l e R s m args below meth c H locs cells slots mc ms g rest (Qc (Value.ref b :: As).toArray) free := by
  obtain ⟨⟨hrc, hrs, hfr, hlo, hws, hcw⟩, hcode, hini, hy, hlen, hl, hin, hse⟩ := cw
  have hK : Back l R p e below s args y 3 8 (PreOf R mc ms Pc) (PostOf Qc mc ms free) := va_backW (hh := hh) (bytes := bytes) (maxL := maxL) (ret := ret) hM hp.1 hrc hrs hfr hlo hws hcw (fun a' U hW => word_at hW (Or.inl (by first | rfl | simp [Cond.onTables, Cond.keeps, Cond.steady])) hini)
  obtain ⟨hx, hb, hml, ho, -⟩ := S
  obtain ⟨-, ⟨cellB, hcB, hoB, hclB⟩, hPc⟩ := hp
  intro T hT X
  obtain ⟨v, vm₁, ⟨U', l2, c2, s2⟩, hW₁, X', ⟨g', mk, t, L, e1, e2, hq, h1, hL, h2, h3⟩, st⟩ := vx_callVW X hx (C := C) (hh := hh) (bytes := bytes) (maxL := maxL) (ret := ret) ho hl hin hse hcode hy hK (by rw [hT]; exact hcB) hoB hclB hg (hsize.trans hml.symm) (argsL := As) (rest := rest) (fun sig h => hn.trans (hlen sig h)) hstack hW (by rw [hb]; exact hdg)
    (fun vm₁ hW₁ => ⟨hf.1, hf.2, hPc (T.setVm vm₁) hT hW₁⟩)
  dsimp only [Pt.U, Pt.locs, Pt.cells, Pt.slots] at X' e1 e2 h1 h2 h3 st
  subst h1; subst h2; subst h3
  exact ⟨v, (T.setVm vm₁).calling g' mk (Value.ref b :: As).toArray, t, U', L, hT, X', hL, e1, e2, hq, st⟩
section
variable {y : MethodName} {bytes cc : ByteArray} {maxL nL mc ms n index : Nat} {ret : Option FieldType} {ws : List Cond} {rm : Room} {Pc : Array Value → State → Prop} {Qc : Array Value → State → Outcome → State → Prop} {XC : String → State → State → Prop} {free : Addr → Prop} {Ts : List Cond} {own C : String} {b : Addr} {As rest : List Value} {g : JFrame}
theorem vx_runVX {hh : List (Nat × Nat × Nat × Nat)} (S : CallFix p m c cc nL s args Ts own) (hM : vx_Met l y ws rm Pc Qc XC mc ms free) (cw : vx_CVW R s args own C index y bytes maxL ret hh ws rm mc ms n) (hp : PreV s H C b Pc As)
    (hg : g.method = m) (hn : As.length = n) (hsize : g.locals.size = nL) (hstack : g.stack = As.reverse ++ .ref b :: rest) (hW : 2 * g.monitorRoom + (rest.map fun v => v.category).sum ≤ 8) (hdg : decode cc g.pc = .ok (.invokevirtual index, 3)) (hf : cells + mc ≤ R.cells ∧ slots + ms ≤ R.slots) :
    vx_Run p l e R s m args below meth c H locs cells slots mc ms g rest (Qc (Value.ref b :: As).toArray) XC free := by
  obtain ⟨⟨hrc, hrs, hfr, hlo, hws, hcw⟩, hcode, hini, hy, hlen, hl, hin, hse⟩ := cw
  have hK : vx_Back l R p e below s args y 3 8 (PreOf R mc ms Pc) (PostOf Qc mc ms free) (vx_Post XC mc ms free) := vx_backW (hh := hh) (bytes := bytes) (maxL := maxL) (ret := ret) hM hp.1 hrc hrs hfr hlo hws hcw (fun a' U hW => word_at hW (Or.inl (by first | rfl | simp [Cond.onTables, Cond.keeps, Cond.steady])) hini)
  obtain ⟨hx, hb, hml, ho, -⟩ := S
  obtain ⟨-, ⟨cellB, hcB, hoB, hclB⟩, hPc⟩ := hp
  intro T hT X
  rcases vx_callVX X hx (C := C) (hh := hh) (bytes := bytes) (maxL := maxL) (ret := ret) ho hl hin hse hcode hy hK (by rw [hT]; exact hcB) hoB hclB hg (hsize.trans hml.symm) (argsL := As) (rest := rest) (fun sig h => hn.trans (hlen sig h)) hstack hW (by rw [hb]; exact hdg)
    (fun vm₁ hW₁ => ⟨hf.1, hf.2, hPc (T.setVm vm₁) hT hW₁⟩) with ⟨v, vm₁, ⟨U', l2, c2, s2⟩, hW₁, X', ⟨g', mk, t, L, e1, e2, hq, h1, hL, h2, h3⟩, st⟩ | ⟨q, vm₁, ⟨U', l2, c2, s2⟩, hW₁, X', ⟨g', mk, t, L, E, ce, e1, e2, hq, hce, hcv, hcl, h1, hL, h2, h3⟩, st⟩
  · dsimp only [Pt.U, Pt.locs, Pt.cells, Pt.slots] at X' e1 e2 h1 h2 h3 st
    subst h1; subst h2; subst h3
    exact Or.inl ⟨v, (T.setVm vm₁).calling g' mk (Value.ref b :: As).toArray, t, U', L, hT, X', hL, e1, e2, hq, st⟩
  · dsimp only [Pt.U, Pt.locs, Pt.cells, Pt.slots] at X' e1 e2 h1 h2 h3 st hcl
    subst h1; subst h2; subst h3
    exact Or.inr ⟨q, (T.setVm vm₁).calling g' mk (Value.ref b :: As).toArray, t, U', L, E, ce, hT, X', hL, e1, e2, hq, hce, hcv, vx_cls hW₁ hcl, st⟩
theorem vx_runSX {hh : List (Nat × Nat × Nat × Nat)} (S : CallFix p m c cc nL s args Ts own) (hM : vx_Met l y ws rm Pc Qc XC mc ms free) (cw : vx_CSW R s args own index y bytes maxL ret hh ws rm mc ms n) (hp : PreS s H Pc As)
    (hg : g.method = m) (hn : As.length = n) (hsize : g.locals.size = nL) (hstack : g.stack = As.reverse ++ rest) (hW : 2 * g.monitorRoom + (rest.map fun v => v.category).sum ≤ 8) (hdg : decode cc g.pc = .ok (.invokestatic index, 3)) (hf : cells + mc ≤ R.cells ∧ slots + ms ≤ R.slots) :
    vx_Run p l e R s m args below meth c H locs cells slots mc ms g rest (Qc As.toArray) XC free := by
  obtain ⟨⟨hrc, hrs, hfr, hlo, hws, hcw⟩, hcode, hini, hy, hlen, hl, hstt⟩ := cw
  have hK : vx_Back l R p e below s args y 3 8 (PreOf R mc ms Pc) (PostOf Qc mc ms free) (vx_Post XC mc ms free) := vx_backW (hh := hh) (bytes := bytes) (maxL := maxL) (ret := ret) hM hp.1 hrc hrs hfr hlo hws hcw (fun a' U hW => word_at hW (Or.inl (by first | rfl | simp [Cond.onTables, Cond.keeps, Cond.steady])) hini)
  obtain ⟨hx, hb, hml, ho, -⟩ := S
  intro T hT X
  rcases vx_callSX X hx (hh := hh) (bytes := bytes) (maxL := maxL) (ret := ret) ho hl hstt hini hcode hy hK hg (hsize.trans hml.symm) (argsL := As) (rest := rest) (fun sig h => hn.trans (hlen sig h)) hstack hW (by rw [hb]; exact hdg)
    (fun vm₁ hW₁ => ⟨hf.1, hf.2, hp.2 (T.setVm vm₁) hT hW₁⟩) with ⟨v, vm₁, ⟨U', l2, c2, s2⟩, hW₁, X', ⟨g', mk, t, L, e1, e2, hq, h1, hL, h2, h3⟩, st⟩ | ⟨q, vm₁, ⟨U', l2, c2, s2⟩, hW₁, X', ⟨g', mk, t, L, E, ce, e1, e2, hq, hce, hcv, hcl, h1, hL, h2, h3⟩, st⟩
  · dsimp only [Pt.U, Pt.locs, Pt.cells, Pt.slots] at X' e1 e2 h1 h2 h3 st
    subst h1; subst h2; subst h3
    exact Or.inl ⟨v, (T.setVm vm₁).calling g' mk As.toArray, t, U', L, hT, X', hL, e1, e2, hq, st⟩
  · dsimp only [Pt.U, Pt.locs, Pt.cells, Pt.slots] at X' e1 e2 h1 h2 h3 st hcl
    subst h1; subst h2; subst h3
    exact Or.inr ⟨q, (T.setVm vm₁).calling g' mk As.toArray, t, U', L, E, ce, hT, X', hL, e1, e2, hq, hce, hcv, vx_cls hW₁ hcl, st⟩
end
end VXH
theorem vx_ofWH {l : Launch} {y : MethodName} {ws ws' : List Cond} {rm : Room} {Pc : Array Value → State → Prop} {Qc : Array Value → State → Outcome → State → Prop} {XC : String → State → State → Prop} {mc ms : Nat} {free : Addr → Prop} {cc : ByteArray} {maxL : Nat} {ret : Option FieldType} {hh : List (Nat × Nat × Nat × Nat)}
    (hy : plainName y.cls = true) (hw : ws = Cond.codeWith y cc maxL ret hh :: ws')
    (body : ∀ p e s m args below meth c s₁, BodyLoose p l y (headSpec ws rm) cc maxL ret e s m args below meth c s₁ → c.maxLocals = maxL → Pc args s →
      W p l e (headSpec ws rm).room s m args below meth c s.heap [] 0 0 (vx_MQ below Qc XC args s mc ms free) (entryFrame m args maxL)) : vx_Met l y ws rm Pc Qc XC mc ms free := by
  refine MetFree.of_bodyS (code := cc) (maxLocals := maxL) (ret := ret) hy ?_ ?_
  · intro args s m h hn
    obtain ⟨m9, meth, c, hn9, h1, h2, h3, h4, -, h5, h6, -⟩ := Cond.codeWith_spec (atoms_spec (ws := ws) h _ (by rw [hw]; exact List.mem_cons_self))
    cases hn.symm.trans hn9
    exact ⟨meth, c, h1, h2, h3, h4, h5, h6⟩
  · intro p e s m args below meth c s₁ B hml hP _
    have hh0 : s₁.heap = s.heap := by rw [B.state]; rfl
    obtain ⟨t, a1, o, b1, b2, b3⟩ := body p e s m args below meth c s₁ B hml hP s₁ hh0 (Stand.of_body B)
    exact ⟨t, o, a1, b1, b2, b3⟩
/-! ===== END ===== -/
end
section
def RX0 : String := "CardMerger$Cards"
def TX0 : u_T := fun k => match k with
  | 0 => ("CardMerger$Cards", "books", "[I", true)
  | 1 => ("CardMerger$Cards", "names", "[[I", true)
  | 2 => ("CardMerger$Cards", "sets", "[[I", true)
  | 3 => ("CardMerger$Cards", "mineChanges", "[I", true)
  | _ => ("CardMerger$Cards", "count", "I", false)
def tyX0 : Nat → FieldType := fun k => match k with
  | 0 => .array .int
  | 1 => .array (.array .int)
  | 2 => .array (.array .int)
  | 3 => .array .int
  | _ => .int
abbrev wsX00 : List Cond := u_ws RX0 TX0 5
theorem nmX0 : ∀ a, a < 5 → ∀ b, b < 5 → a ≠ b → (TX0 a).2.1 ≠ (TX0 b).2.1 := by decide +kernel
theorem tyX0_ok : ∀ k, k < 5 → parseFieldDescriptor (TX0 k).2.2.1 = some (tyX0 k) := by decide +kernel
abbrev cX0_init : ByteArray := prog_2_method_1_code
def yX0_init : MethodName := ⟨RX0, "<init>", "()V"⟩
abbrev cX0_append : ByteArray := prog_2_method_2_code
def yX0_append : MethodName := ⟨RX0, "append", "(II)I"⟩
abbrev cX0_isIn : ByteArray := prog_2_method_3_code
def yX0_isIn : MethodName := ⟨RX0, "isIn", "(II)Z"⟩
abbrev cX0_nameIn : ByteArray := prog_2_method_4_code
def yX0_nameIn : MethodName := ⟨RX0, "nameIn", "(II)I"⟩
abbrev cX0_setOf : ByteArray := prog_2_method_5_code
def yX0_setOf : MethodName := ⟨RX0, "setOf", "(III)I"⟩
abbrev cX0_putName : ByteArray := prog_2_method_6_code
def yX0_putName : MethodName := ⟨RX0, "putName", "(III)V"⟩
abbrev cX0_putSet : ByteArray := prog_2_method_7_code
def yX0_putSet : MethodName := ⟨RX0, "putSet", "(IIII)V"⟩
abbrev cX0_mineChangesOf : ByteArray := prog_2_method_8_code
def yX0_mineChangesOf : MethodName := ⟨RX0, "mineChangesOf", "(II)I"⟩
abbrev cX0_mergedSet : ByteArray := prog_2_method_9_code
def yX0_mergedSet : MethodName := ⟨RX0, "mergedSet", "(II)I"⟩
abbrev cX0_mergedSetByValues : ByteArray := prog_2_method_10_code
def yX0_mergedSetByValues : MethodName := ⟨RX0, "mergedSetByValues", "(II)I"⟩
abbrev cX0_mergedName : ByteArray := prog_2_method_11_code
def yX0_mergedName : MethodName := ⟨RX0, "mergedName", "(I)I"⟩
abbrev cX0_namesClash : ByteArray := prog_2_method_12_code
def yX0_namesClash : MethodName := ⟨RX0, "namesClash", "(I)Z"⟩
abbrev cX0_mergeVersions : ByteArray := prog_2_method_13_code
def yX0_mergeVersions : MethodName := ⟨RX0, "mergeVersions", "(I)V"⟩
abbrev cX0_isSynced : ByteArray := prog_2_method_14_code
def yX0_isSynced : MethodName := ⟨RX0, "isSynced", "(I)Z"⟩
abbrev cX0_countShared : ByteArray := prog_2_method_15_code
def yX0_countShared : MethodName := ⟨RX0, "countShared", "(III)I"⟩
abbrev cX0_preferredOf : ByteArray := prog_2_method_16_code
def yX0_preferredOf : MethodName := ⟨RX0, "preferredOf", "(II)I"⟩
abbrev cX0_isAhead : ByteArray := prog_2_method_17_code
def yX0_isAhead : MethodName := ⟨RX0, "isAhead", "(II)Z"⟩
abbrev cX0_mineOfAll : ByteArray := prog_2_method_18_code
def yX0_mineOfAll : MethodName := ⟨RX0, "mineOfAll", "(II)I"⟩
def RX1 : String := "CardMerger$Links"
def TX1 : u_T := fun k => match k with
  | 0 => ("CardMerger$Links", "linked", "[I", true)
  | _ => ("CardMerger$Links", "groups", "[I", true)
def tyX1 : Nat → FieldType := fun k => match k with
  | 0 => .array .int
  | _ => .array .int
abbrev wsX10 : List Cond := u_ws RX1 TX1 2
theorem nmX1 : ∀ a, a < 2 → ∀ b, b < 2 → a ≠ b → (TX1 a).2.1 ≠ (TX1 b).2.1 := by decide +kernel
theorem tyX1_ok : ∀ k, k < 2 → parseFieldDescriptor (TX1 k).2.2.1 = some (tyX1 k) := by decide +kernel
abbrev cX1_init : ByteArray := prog_3_method_1_code
def yX1_init : MethodName := ⟨RX1, "<init>", "()V"⟩
abbrev cX1_areLinked : ByteArray := prog_3_method_2_code
def yX1_areLinked : MethodName := ⟨RX1, "areLinked", "(II)Z"⟩
abbrev cX1_areTogether : ByteArray := prog_3_method_3_code
def yX1_areTogether : MethodName := ⟨RX1, "areTogether", "(II)Z"⟩
abbrev cX1_groupOf : ByteArray := prog_3_method_4_code
def yX1_groupOf : MethodName := ⟨RX1, "groupOf", "(I)I"⟩
abbrev cX1_isLowestOfGroup : ByteArray := prog_3_method_5_code
def yX1_isLowestOfGroup : MethodName := ⟨RX1, "isLowestOfGroup", "(I)Z"⟩
abbrev cX1_connect : ByteArray := prog_3_method_6_code
def yX1_connect : MethodName := ⟨RX1, "connect", "(II)V"⟩
abbrev cX1_disconnect : ByteArray := prog_3_method_7_code
def yX1_disconnect : MethodName := ⟨RX1, "disconnect", "(II)V"⟩
abbrev cX1_putGroup : ByteArray := prog_3_method_8_code
def yX1_putGroup : MethodName := ⟨RX1, "putGroup", "(I)V"⟩
abbrev cX1_reachedFrom : ByteArray := prog_3_method_9_code
def yX1_reachedFrom : MethodName := ⟨RX1, "reachedFrom", "(I)I"⟩
abbrev cX1_linkedToAny : ByteArray := prog_3_method_10_code
def yX1_linkedToAny : MethodName := ⟨RX1, "linkedToAny", "(I)I"⟩
def RX2 : String := "CardMerger$Refusals"
def TX2 : u_T := fun k => match k with
  | 0 => ("CardMerger$Refusals", "forGood", "[I", true)
  | _ => ("CardMerger$Refusals", "changesThen", "[[I", true)
def tyX2 : Nat → FieldType := fun k => match k with
  | 0 => .array .int
  | _ => .array (.array .int)
abbrev wsX20 : List Cond := u_ws RX2 TX2 2
theorem nmX2 : ∀ a, a < 2 → ∀ b, b < 2 → a ≠ b → (TX2 a).2.1 ≠ (TX2 b).2.1 := by decide +kernel
theorem tyX2_ok : ∀ k, k < 2 → parseFieldDescriptor (TX2 k).2.2.1 = some (tyX2 k) := by decide +kernel
abbrev cX2_init : ByteArray := prog_4_method_1_code
def yX2_init : MethodName := ⟨RX2, "<init>", "()V"⟩
abbrev cX2_refuseForGood : ByteArray := prog_4_method_2_code
def yX2_refuseForGood : MethodName := ⟨RX2, "refuseForGood", "(II)V"⟩
abbrev cX2_refuseForNow : ByteArray := prog_4_method_3_code
def yX2_refuseForNow : MethodName := ⟨RX2, "refuseForNow", "(III)V"⟩
abbrev cX2_stands : ByteArray := prog_4_method_4_code
def yX2_stands : MethodName := ⟨RX2, "stands", "(III)Z"⟩
def RX3 : String := "CardMerger"
def TX3 : u_T := fun k => match k with
  | 0 => ("CardMerger", "cards", "LCardMerger$Cards;", true)
  | 1 => ("CardMerger", "links", "LCardMerger$Links;", true)
  | 2 => ("CardMerger", "refusals", "LCardMerger$Refusals;", true)
  | _ => ("CardMerger", "pairsOfScore", "[I", true)
def tyX3 : Nat → FieldType := fun k => match k with
  | 0 => .object "CardMerger$Cards"
  | 1 => .object "CardMerger$Links"
  | 2 => .object "CardMerger$Refusals"
  | _ => .array .int
abbrev wsX30 : List Cond := u_ws RX3 TX3 4
theorem nmX3 : ∀ a, a < 4 → ∀ b, b < 4 → a ≠ b → (TX3 a).2.1 ≠ (TX3 b).2.1 := by decide +kernel
theorem tyX3_ok : ∀ k, k < 4 → parseFieldDescriptor (TX3 k).2.2.1 = some (tyX3 k) := by decide +kernel
abbrev cX3_init : ByteArray := prog_1_method_1_code
def yX3_init : MethodName := ⟨RX3, "<init>", "()V"⟩
abbrev cX3_add : ByteArray := prog_1_method_2_code
def yX3_add : MethodName := ⟨RX3, "add", "(II)I"⟩
abbrev cX3_turn : ByteArray := prog_1_method_3_code
def yX3_turn : MethodName := ⟨RX3, "turn", "(IIII)Z"⟩
abbrev cX3_rename : ByteArray := prog_1_method_4_code
def yX3_rename : MethodName := ⟨RX3, "rename", "(III)I"⟩
abbrev cX3_sync : ByteArray := prog_1_method_5_code
def yX3_sync : MethodName := ⟨RX3, "sync", "(I)I"⟩
abbrev cX3_cards : ByteArray := prog_1_method_6_code
def yX3_cards : MethodName := ⟨RX3, "cards", "()I"⟩
abbrev cX3_values : ByteArray := prog_1_method_7_code
def yX3_values : MethodName := ⟨RX3, "values", "(III)I"⟩
abbrev cX3_nameOf : ByteArray := prog_1_method_8_code
def yX3_nameOf : MethodName := ⟨RX3, "nameOf", "(II)I"⟩
abbrev cX3_merged : ByteArray := prog_1_method_9_code
def yX3_merged : MethodName := ⟨RX3, "merged", "(II)I"⟩
abbrev cX3_mergedByValues : ByteArray := prog_1_method_10_code
def yX3_mergedByValues : MethodName := ⟨RX3, "mergedByValues", "(II)I"⟩
abbrev cX3_unsynced : ByteArray := prog_1_method_11_code
def yX3_unsynced : MethodName := ⟨RX3, "unsynced", "(I)I"⟩
abbrev cX3_link : ByteArray := prog_1_method_12_code
def yX3_link : MethodName := ⟨RX3, "link", "(II)I"⟩
abbrev cX3_cut : ByteArray := prog_1_method_13_code
def yX3_cut : MethodName := ⟨RX3, "cut", "(II)Z"⟩
abbrev cX3_group : ByteArray := prog_1_method_14_code
def yX3_group : MethodName := ⟨RX3, "group", "(I)I"⟩
abbrev cX3_groups : ByteArray := prog_1_method_15_code
def yX3_groups : MethodName := ⟨RX3, "groups", "()I"⟩
abbrev cX3_preferred : ByteArray := prog_1_method_16_code
def yX3_preferred : MethodName := ⟨RX3, "preferred", "(I)I"⟩
abbrev cX3_shown : ByteArray := prog_1_method_17_code
def yX3_shown : MethodName := ⟨RX3, "shown", "(II)I"⟩
abbrev cX3_edit : ByteArray := prog_1_method_18_code
def yX3_edit : MethodName := ⟨RX3, "edit", "(III)I"⟩
abbrev cX3_score : ByteArray := prog_1_method_19_code
def yX3_score : MethodName := ⟨RX3, "score", "(II)I"⟩
abbrev cX3_pairs : ByteArray := prog_1_method_20_code
def yX3_pairs : MethodName := ⟨RX3, "pairs", "()I"⟩
abbrev cX3_pairAt : ByteArray := prog_1_method_21_code
def yX3_pairAt : MethodName := ⟨RX3, "pairAt", "(I)I"⟩
abbrev cX3_turnDown : ByteArray := prog_1_method_22_code
def yX3_turnDown : MethodName := ⟨RX3, "turnDown", "(IIZ)I"⟩
abbrev cX3_checkBook : ByteArray := prog_1_method_23_code
def yX3_checkBook : MethodName := ⟨RX3, "checkBook", "(I)V"⟩
abbrev cX3_checkCard : ByteArray := prog_1_method_24_code
def yX3_checkCard : MethodName := ⟨RX3, "checkCard", "(I)V"⟩
abbrev cX3_checkTwoCards : ByteArray := prog_1_method_25_code
def yX3_checkTwoCards : MethodName := ⟨RX3, "checkTwoCards", "(II)V"⟩
abbrev cX3_checkArgument : ByteArray := prog_1_method_26_code
def yX3_checkArgument : MethodName := ⟨RX3, "checkArgument", "(Z)V"⟩
abbrev cX3_isName : ByteArray := prog_1_method_27_code
def yX3_isName : MethodName := ⟨RX3, "isName", "(I)Z"⟩
abbrev cX3_isValue : ByteArray := prog_1_method_28_code
def yX3_isValue : MethodName := ⟨RX3, "isValue", "(I)Z"⟩
abbrev cX3_isKind : ByteArray := prog_1_method_29_code
def yX3_isKind : MethodName := ⟨RX3, "isKind", "(I)Z"⟩
abbrev cX3_isChangeable : ByteArray := prog_1_method_30_code
def yX3_isChangeable : MethodName := ⟨RX3, "isChangeable", "(I)Z"⟩
abbrev cX3_isVersion : ByteArray := prog_1_method_31_code
def yX3_isVersion : MethodName := ⟨RX3, "isVersion", "(I)Z"⟩
abbrev cX3_has : ByteArray := prog_1_method_32_code
def yX3_has : MethodName := ⟨RX3, "has", "(II)Z"⟩
abbrev cX3_takeOutOfMine : ByteArray := prog_1_method_33_code
def yX3_takeOutOfMine : MethodName := ⟨RX3, "takeOutOfMine", "(III)I"⟩
abbrev cX3_scoreOf : ByteArray := prog_1_method_34_code
def yX3_scoreOf : MethodName := ⟨RX3, "scoreOf", "(II)I"⟩
abbrev cX3_suggestedScore : ByteArray := prog_1_method_35_code
def yX3_suggestedScore : MethodName := ⟨RX3, "suggestedScore", "(II)I"⟩
abbrev cX3_tallyPairs : ByteArray := prog_1_method_36_code
def yX3_tallyPairs : MethodName := ⟨RX3, "tallyPairs", "()I"⟩
abbrev cX3_pairOfScore : ByteArray := prog_1_method_37_code
def yX3_pairOfScore : MethodName := ⟨RX3, "pairOfScore", "(II)I"⟩
def RX4 : String := "CardMergerModel"
def TX4 : u_T := fun k => match k with
  | 0 => ("CardMergerModel", "thrown", "I", false)
  | 1 => ("CardMergerModel", "book", "[I", true)
  | 2 => ("CardMergerModel", "name", "[I", true)
  | 3 => ("CardMergerModel", "set", "[I", true)
  | 4 => ("CardMergerModel", "links", "[I", true)
  | 5 => ("CardMergerModel", "good", "[I", true)
  | 6 => ("CardMergerModel", "forNow", "[I", true)
  | 7 => ("CardMergerModel", "cards", "I", false)
  | _ => ("CardMergerModel", "scores", "[I", true)
def tyX4 : Nat → FieldType := fun k => match k with
  | 0 => .int
  | 1 => .array .int
  | 2 => .array .int
  | 3 => .array .int
  | 4 => .array .int
  | 5 => .array .int
  | 6 => .array .int
  | 7 => .int
  | _ => .array .int
abbrev wsX40 : List Cond := u_ws RX4 TX4 9
theorem nmX4 : ∀ a, a < 9 → ∀ b, b < 9 → a ≠ b → (TX4 a).2.1 ≠ (TX4 b).2.1 := by decide +kernel
theorem tyX4_ok : ∀ k, k < 9 → parseFieldDescriptor (TX4 k).2.2.1 = some (tyX4 k) := by decide +kernel
abbrev cX4_init : ByteArray := prog_6_method_1_code
def yX4_init : MethodName := ⟨RX4, "<init>", "()V"⟩
abbrev cX4_thrown : ByteArray := prog_6_method_2_code
def yX4_thrown : MethodName := ⟨RX4, "thrown", "()I"⟩
abbrev cX4_isFine : ByteArray := prog_6_method_3_code
def yX4_isFine : MethodName := ⟨RX4, "isFine", "(I)Z"⟩
abbrev cX4_isIn : ByteArray := prog_6_method_4_code
def yX4_isIn : MethodName := ⟨RX4, "isIn", "(III)Z"⟩
abbrev cX4_isCard : ByteArray := prog_6_method_5_code
def yX4_isCard : MethodName := ⟨RX4, "isCard", "(I)Z"⟩
abbrev cX4_isBook : ByteArray := prog_6_method_6_code
def yX4_isBook : MethodName := ⟨RX4, "isBook", "(I)Z"⟩
abbrev cX4_isKind : ByteArray := prog_6_method_7_code
def yX4_isKind : MethodName := ⟨RX4, "isKind", "(I)Z"⟩
abbrev cX4_at : ByteArray := prog_6_method_8_code
def yX4_at : MethodName := ⟨RX4, "at", "(III)I"⟩
abbrev cX4_count : ByteArray := prog_6_method_9_code
def yX4_count : MethodName := ⟨RX4, "count", "(I)I"⟩
abbrev cX4_has : ByteArray := prog_6_method_10_code
def yX4_has : MethodName := ⟨RX4, "has", "(II)Z"⟩
abbrev cX4_add : ByteArray := prog_6_method_11_code
def yX4_add : MethodName := ⟨RX4, "add", "(II)I"⟩
abbrev cX4_changes : ByteArray := prog_6_method_12_code
def yX4_changes : MethodName := ⟨RX4, "changes", "(I)V"⟩
abbrev cX4_sets : ByteArray := prog_6_method_13_code
def yX4_sets : MethodName := ⟨RX4, "sets", "(IIII)V"⟩
abbrev cX4_names : ByteArray := prog_6_method_14_code
def yX4_names : MethodName := ⟨RX4, "names", "(III)V"⟩
abbrev cX4_turn : ByteArray := prog_6_method_15_code
def yX4_turn : MethodName := ⟨RX4, "turn", "(IIII)Z"⟩
abbrev cX4_rename : ByteArray := prog_6_method_16_code
def yX4_rename : MethodName := ⟨RX4, "rename", "(III)I"⟩
abbrev cX4_mergedOf : ByteArray := prog_6_method_17_code
def yX4_mergedOf : MethodName := ⟨RX4, "mergedOf", "(II)I"⟩
abbrev cX4_mergedName : ByteArray := prog_6_method_18_code
def yX4_mergedName : MethodName := ⟨RX4, "mergedName", "(I)I"⟩
abbrev cX4_clashes : ByteArray := prog_6_method_19_code
def yX4_clashes : MethodName := ⟨RX4, "clashes", "(I)Z"⟩
abbrev cX4_sync : ByteArray := prog_6_method_20_code
def yX4_sync : MethodName := ⟨RX4, "sync", "(I)I"⟩
abbrev cX4_cards : ByteArray := prog_6_method_21_code
def yX4_cards : MethodName := ⟨RX4, "cards", "()I"⟩
abbrev cX4_values : ByteArray := prog_6_method_22_code
def yX4_values : MethodName := ⟨RX4, "values", "(III)I"⟩
abbrev cX4_nameOf : ByteArray := prog_6_method_23_code
def yX4_nameOf : MethodName := ⟨RX4, "nameOf", "(II)I"⟩
abbrev cX4_merged : ByteArray := prog_6_method_24_code
def yX4_merged : MethodName := ⟨RX4, "merged", "(II)I"⟩
abbrev cX4_mergedByValues : ByteArray := prog_6_method_25_code
def yX4_mergedByValues : MethodName := ⟨RX4, "mergedByValues", "(II)I"⟩
abbrev cX4_unsynced : ByteArray := prog_6_method_26_code
def yX4_unsynced : MethodName := ⟨RX4, "unsynced", "(I)I"⟩
abbrev cX4_groupOf : ByteArray := prog_6_method_27_code
def yX4_groupOf : MethodName := ⟨RX4, "groupOf", "(I)I"⟩
abbrev cX4_link : ByteArray := prog_6_method_28_code
def yX4_link : MethodName := ⟨RX4, "link", "(II)I"⟩
abbrev cX4_cut : ByteArray := prog_6_method_29_code
def yX4_cut : MethodName := ⟨RX4, "cut", "(II)Z"⟩
abbrev cX4_group : ByteArray := prog_6_method_30_code
def yX4_group : MethodName := ⟨RX4, "group", "(I)I"⟩
abbrev cX4_groups : ByteArray := prog_6_method_31_code
def yX4_groups : MethodName := ⟨RX4, "groups", "()I"⟩
abbrev cX4_preferredOf : ByteArray := prog_6_method_32_code
def yX4_preferredOf : MethodName := ⟨RX4, "preferredOf", "(I)I"⟩
abbrev cX4_preferred : ByteArray := prog_6_method_33_code
def yX4_preferred : MethodName := ⟨RX4, "preferred", "(I)I"⟩
abbrev cX4_shownOf : ByteArray := prog_6_method_34_code
def yX4_shownOf : MethodName := ⟨RX4, "shownOf", "(II)I"⟩
abbrev cX4_shown : ByteArray := prog_6_method_35_code
def yX4_shown : MethodName := ⟨RX4, "shown", "(II)I"⟩
abbrev cX4_edit : ByteArray := prog_6_method_36_code
def yX4_edit : MethodName := ⟨RX4, "edit", "(III)I"⟩
abbrev cX4_alike : ByteArray := prog_6_method_37_code
def yX4_alike : MethodName := ⟨RX4, "alike", "(II)I"⟩
abbrev cX4_scoreOf : ByteArray := prog_6_method_38_code
def yX4_scoreOf : MethodName := ⟨RX4, "scoreOf", "(II)I"⟩
abbrev cX4_isSuggested : ByteArray := prog_6_method_39_code
def yX4_isSuggested : MethodName := ⟨RX4, "isSuggested", "(II)Z"⟩
abbrev cX4_score : ByteArray := prog_6_method_40_code
def yX4_score : MethodName := ⟨RX4, "score", "(II)I"⟩
abbrev cX4_finds : ByteArray := prog_6_method_41_code
def yX4_finds : MethodName := ⟨RX4, "finds", "()I"⟩
abbrev cX4_pairs : ByteArray := prog_6_method_42_code
def yX4_pairs : MethodName := ⟨RX4, "pairs", "()I"⟩
abbrev cX4_pairAt : ByteArray := prog_6_method_43_code
def yX4_pairAt : MethodName := ⟨RX4, "pairAt", "(I)I"⟩
abbrev cX4_turnDown : ByteArray := prog_6_method_44_code
def yX4_turnDown : MethodName := ⟨RX4, "turnDown", "(IIZ)I"⟩
def RJ6 : String := "java/lang/Integer"
def TJ6 : u_T := fun k => match k with
  | _ => ("", "", "", false)
def tyJ6 : Nat → FieldType := fun k => match k with
  | _ => .int
abbrev wsJ60 : List Cond := u_ws RJ6 TJ6 0
theorem nmJ6 : ∀ a, a < 0 → ∀ b, b < 0 → a ≠ b → (TJ6 a).2.1 ≠ (TJ6 b).2.1 := by decide +kernel
theorem tyJ6_ok : ∀ k, k < 0 → parseFieldDescriptor (TJ6 k).2.2.1 = some (tyJ6 k) := by decide +kernel
abbrev cJ6_bitCount_0f7a4 : ByteArray := prog_11_method_49_code
def yJ6_bitCount_0f7a4 : MethodName := ⟨RJ6, "bitCount", "(I)I"⟩
def RJ0 : String := "java/lang/String"
def TJ0 : u_T := fun k => match k with
  | _ => ("", "", "", false)
def tyJ0 : Nat → FieldType := fun k => match k with
  | _ => .int
abbrev wsJ00 : List Cond := u_ws RJ0 TJ0 0
theorem nmJ0 : ∀ a, a < 0 → ∀ b, b < 0 → a ≠ b → (TJ0 a).2.1 ≠ (TJ0 b).2.1 := by decide +kernel
theorem tyJ0_ok : ∀ k, k < 0 → parseFieldDescriptor (TJ0 k).2.2.1 = some (tyJ0 k) := by decide +kernel
def RL : String := "CardMergerLaw"
abbrev cL_add : ByteArray := method_3_code
def yL_add : MethodName := ⟨RL, "add", "(LCardMerger;II[J)I"⟩
abbrev cL_turn : ByteArray := method_4_code
def yL_turn : MethodName := ⟨RL, "turn", "(LCardMerger;IIII[J)I"⟩
abbrev cL_rename : ByteArray := method_5_code
def yL_rename : MethodName := ⟨RL, "rename", "(LCardMerger;III[J)I"⟩
abbrev cL_sync : ByteArray := method_6_code
def yL_sync : MethodName := ⟨RL, "sync", "(LCardMerger;I[J)I"⟩
abbrev cL_values : ByteArray := method_7_code
def yL_values : MethodName := ⟨RL, "values", "(LCardMerger;III[J)I"⟩
abbrev cL_nameOf : ByteArray := method_8_code
def yL_nameOf : MethodName := ⟨RL, "nameOf", "(LCardMerger;II[J)I"⟩
abbrev cL_merged : ByteArray := method_9_code
def yL_merged : MethodName := ⟨RL, "merged", "(LCardMerger;II[J)I"⟩
abbrev cL_mergedByValues : ByteArray := method_10_code
def yL_mergedByValues : MethodName := ⟨RL, "mergedByValues", "(LCardMerger;II[J)I"⟩
abbrev cL_unsynced : ByteArray := method_11_code
def yL_unsynced : MethodName := ⟨RL, "unsynced", "(LCardMerger;I[J)I"⟩
abbrev cL_link : ByteArray := method_12_code
def yL_link : MethodName := ⟨RL, "link", "(LCardMerger;II[J)I"⟩
abbrev cL_cut : ByteArray := method_13_code
def yL_cut : MethodName := ⟨RL, "cut", "(LCardMerger;II[J)I"⟩
abbrev cL_group : ByteArray := method_14_code
def yL_group : MethodName := ⟨RL, "group", "(LCardMerger;I[J)I"⟩
abbrev cL_preferred : ByteArray := method_15_code
def yL_preferred : MethodName := ⟨RL, "preferred", "(LCardMerger;I[J)I"⟩
abbrev cL_shown : ByteArray := method_16_code
def yL_shown : MethodName := ⟨RL, "shown", "(LCardMerger;II[J)I"⟩
abbrev cL_edit : ByteArray := method_17_code
def yL_edit : MethodName := ⟨RL, "edit", "(LCardMerger;III[J)I"⟩
abbrev cL_score : ByteArray := method_18_code
def yL_score : MethodName := ⟨RL, "score", "(LCardMerger;II[J)I"⟩
abbrev cL_pairAt : ByteArray := method_19_code
def yL_pairAt : MethodName := ⟨RL, "pairAt", "(LCardMerger;I[J)I"⟩
abbrev cL_turnDown : ByteArray := method_20_code
def yL_turnDown : MethodName := ⟨RL, "turnDown", "(LCardMerger;IIZ[J)I"⟩
abbrev cL_law : ByteArray := code
def yL_law : MethodName := ⟨RL, "law", "([I)Z"⟩
def wsX0_init : List Cond := .code yX0_init cX0_init 1 none :: ([.methodLink RX0 3 objectInit, .instanceMethod objectInit, .code objectInit ⟨#[0xb1]⟩ 1 none, .arrayClass .int, .fieldLink RX0 9 "CardMerger$Cards" "books" "[I", .classLink RX0 15 "[[I", .fieldLink RX0 17 "CardMerger$Cards" "names" "[[I", .fieldLink RX0 20 "CardMerger$Cards" "sets" "[[I", .fieldLink RX0 23 "CardMerger$Cards" "mineChanges" "[I", .fieldLink RX0 26 "CardMerger$Cards" "count" "I"] ++ wsX00)
def wsX0_append : List Cond := .code yX0_append cX0_append 5 (some .int) :: ([.fieldLink RX0 26 "CardMerger$Cards" "count" "I", .fieldLink RX0 9 "CardMerger$Cards" "books" "[I", .fieldLink RX0 17 "CardMerger$Cards" "names" "[[I"] ++ wsX00)
def wsX0_isIn : List Cond := .code yX0_isIn cX0_isIn 3 (some .boolean) :: ([.fieldLink RX0 9 "CardMerger$Cards" "books" "[I"] ++ wsX00)
def wsX0_nameIn : List Cond := .code yX0_nameIn cX0_nameIn 3 (some .int) :: ([.fieldLink RX0 17 "CardMerger$Cards" "names" "[[I"] ++ wsX00)
def wsX0_setOf : List Cond := .code yX0_setOf cX0_setOf 4 (some .int) :: ([.fieldLink RX0 20 "CardMerger$Cards" "sets" "[[I"] ++ wsX00)
def wsX0_putName : List Cond := .code yX0_putName cX0_putName 4 none :: ([.fieldLink RX0 17 "CardMerger$Cards" "names" "[[I", .fieldLink RX0 23 "CardMerger$Cards" "mineChanges" "[I"] ++ wsX00)
def wsX0_putSet : List Cond := .code yX0_putSet cX0_putSet 5 none :: ([.fieldLink RX0 23 "CardMerger$Cards" "mineChanges" "[I", .fieldLink RX0 20 "CardMerger$Cards" "sets" "[[I", .methodLink RX0 30 yX0_setOf, .instanceMethod yX0_setOf, .selects RX0 yX0_setOf yX0_setOf, .initialized RX0, .code yX0_setOf cX0_setOf 4 (some .int)] ++ wsX00)
def wsX0_mineChangesOf : List Cond := .code yX0_mineChangesOf cX0_mineChangesOf 3 (some .int) :: ([.fieldLink RX0 23 "CardMerger$Cards" "mineChanges" "[I"] ++ wsX00)
def wsX0_mergedSet : List Cond := .code yX0_mergedSet cX0_mergedSet 6 (some .int) :: ([.methodLink RX0 30 yX0_setOf, .instanceMethod yX0_setOf, .selects RX0 yX0_setOf yX0_setOf, .initialized RX0, .code yX0_setOf cX0_setOf 4 (some .int), .fieldLink RX0 20 "CardMerger$Cards" "sets" "[[I"] ++ wsX00)
def wsX3_has : List Cond := .code yX3_has cX3_has 2 (some .boolean) :: ([])
def wsX0_mergedSetByValues : List Cond := .code yX0_mergedSetByValues cX0_mergedSetByValues 13 (some .int) :: ([.methodLink RX0 30 yX0_setOf, .instanceMethod yX0_setOf, .selects RX0 yX0_setOf yX0_setOf, .initialized RX0, .code yX0_setOf cX0_setOf 4 (some .int), .fieldLink RX0 20 "CardMerger$Cards" "sets" "[[I", .static yX3_has, .initialized RX3, .code yX3_has cX3_has 2 (some .boolean)] ++ wsX00)
def wsX0_mergedName : List Cond := .code yX0_mergedName cX0_mergedName 3 (some .int) :: ([.methodLink RX0 38 yX0_nameIn, .instanceMethod yX0_nameIn, .selects RX0 yX0_nameIn yX0_nameIn, .initialized RX0, .code yX0_nameIn cX0_nameIn 3 (some .int), .fieldLink RX0 17 "CardMerger$Cards" "names" "[[I"] ++ wsX00)
def wsX0_namesClash : List Cond := .code yX0_namesClash cX0_namesClash 5 (some .boolean) :: ([.methodLink RX0 38 yX0_nameIn, .instanceMethod yX0_nameIn, .selects RX0 yX0_nameIn yX0_nameIn, .initialized RX0, .code yX0_nameIn cX0_nameIn 3 (some .int), .fieldLink RX0 17 "CardMerger$Cards" "names" "[[I"] ++ wsX00)
def wsX0_mergeVersions_r1 : List Cond := [Cond.methodLink RX0 42 yX0_mergedName, Cond.instanceMethod yX0_mergedName, Cond.selects RX0 yX0_mergedName yX0_mergedName, Cond.initialized RX0, Cond.code yX0_mergedName cX0_mergedName 3 (some .int), Cond.methodLink RX0 38 yX0_nameIn, Cond.instanceMethod yX0_nameIn, Cond.selects RX0 yX0_nameIn yX0_nameIn, Cond.code yX0_nameIn cX0_nameIn 3 (some .int), Cond.fieldLink RX0 17 "CardMerger$Cards" "names" "[[I", Cond.methodLink RX0 46 yX0_mergedSet, Cond.instanceMethod yX0_mergedSet, Cond.selects RX0 yX0_mergedSet yX0_mergedSet, Cond.code yX0_mergedSet cX0_mergedSet 6 (some .int), Cond.methodLink RX0 30 yX0_setOf, Cond.instanceMethod yX0_setOf, Cond.selects RX0 yX0_setOf yX0_setOf, Cond.code yX0_setOf cX0_setOf 4 (some .int), Cond.fieldLink RX0 20 "CardMerger$Cards" "sets" "[[I", Cond.methodLink RX0 49 yX0_putName, Cond.instanceMethod yX0_putName, Cond.selects RX0 yX0_putName yX0_putName, Cond.code yX0_putName cX0_putName 4 none, Cond.fieldLink RX0 23 "CardMerger$Cards" "mineChanges" "[I"]
def wsX0_mergeVersions_r2 : List Cond := [Cond.methodLink RX0 53 yX0_putSet, Cond.instanceMethod yX0_putSet, Cond.selects RX0 yX0_putSet yX0_putSet, Cond.code yX0_putSet cX0_putSet 5 none]
def wsX0_mergeVersions : List Cond := .code yX0_mergeVersions cX0_mergeVersions 6 none :: ((wsX0_mergeVersions_r1 ++ wsX0_mergeVersions_r2) ++ wsX00)
def wsX0_isSynced : List Cond := .code yX0_isSynced cX0_isSynced 6 (some .boolean) :: ([.methodLink RX0 42 yX0_mergedName, .instanceMethod yX0_mergedName, .selects RX0 yX0_mergedName yX0_mergedName, .initialized RX0, .code yX0_mergedName cX0_mergedName 3 (some .int), .methodLink RX0 38 yX0_nameIn, .instanceMethod yX0_nameIn, .selects RX0 yX0_nameIn yX0_nameIn, .code yX0_nameIn cX0_nameIn 3 (some .int), .fieldLink RX0 17 "CardMerger$Cards" "names" "[[I", .methodLink RX0 46 yX0_mergedSet, .instanceMethod yX0_mergedSet, .selects RX0 yX0_mergedSet yX0_mergedSet, .code yX0_mergedSet cX0_mergedSet 6 (some .int), .methodLink RX0 30 yX0_setOf, .instanceMethod yX0_setOf, .selects RX0 yX0_setOf yX0_setOf, .code yX0_setOf cX0_setOf 4 (some .int), .fieldLink RX0 20 "CardMerger$Cards" "sets" "[[I"] ++ wsX00)
def wsJ6_bitCount_0f7a4 : List Cond := .code yJ6_bitCount_0f7a4 cJ6_bitCount_0f7a4 1 (some .int) :: ([.constant RJ6 265 (1431655765), .constant RJ6 266 (858993459), .constant RJ6 267 (252645135)])
def wsX0_countShared : List Cond := .code yX0_countShared cX0_countShared 4 (some .int) :: ([.methodLink RX0 30 yX0_setOf, .instanceMethod yX0_setOf, .selects RX0 yX0_setOf yX0_setOf, .initialized RX0, .code yX0_setOf cX0_setOf 4 (some .int), .fieldLink RX0 20 "CardMerger$Cards" "sets" "[[I", .methodLink RX0 57 yJ6_bitCount_0f7a4, .static yJ6_bitCount_0f7a4, .initialized RJ6, .code yJ6_bitCount_0f7a4 cJ6_bitCount_0f7a4 1 (some .int), .constant RJ6 265 (1431655765), .constant RJ6 266 (858993459), .constant RJ6 267 (252645135)] ++ wsX00)
def wsX0_isAhead : List Cond := .code yX0_isAhead cX0_isAhead 3 (some .boolean) :: ([.fieldLink RX0 9 "CardMerger$Cards" "books" "[I"] ++ wsX00)
def wsX0_preferredOf : List Cond := .code yX0_preferredOf cX0_preferredOf 5 (some .int) :: ([.fieldLink RX0 26 "CardMerger$Cards" "count" "I", .static yX3_has, .initialized RX3, .code yX3_has cX3_has 2 (some .boolean), .methodLink RX0 62 yX0_isAhead, .instanceMethod yX0_isAhead, .selects RX0 yX0_isAhead yX0_isAhead, .initialized RX0, .code yX0_isAhead cX0_isAhead 3 (some .boolean), .fieldLink RX0 9 "CardMerger$Cards" "books" "[I"] ++ wsX00)
def wsX0_mineOfAll : List Cond := .code yX0_mineOfAll cX0_mineOfAll 5 (some .int) :: ([.fieldLink RX0 26 "CardMerger$Cards" "count" "I", .static yX3_has, .initialized RX3, .code yX3_has cX3_has 2 (some .boolean), .methodLink RX0 30 yX0_setOf, .instanceMethod yX0_setOf, .selects RX0 yX0_setOf yX0_setOf, .initialized RX0, .code yX0_setOf cX0_setOf 4 (some .int), .fieldLink RX0 20 "CardMerger$Cards" "sets" "[[I"] ++ wsX00)
def wsX1_init : List Cond := .code yX1_init cX1_init 2 none :: ([.methodLink RX1 3 objectInit, .instanceMethod objectInit, .code objectInit ⟨#[0xb1]⟩ 1 none, .arrayClass .int, .fieldLink RX1 9 "CardMerger$Links" "linked" "[I", .fieldLink RX1 15 "CardMerger$Links" "groups" "[I"] ++ wsX10)
def wsX1_areLinked : List Cond := .code yX1_areLinked cX1_areLinked 3 (some .boolean) :: ([.fieldLink RX1 9 "CardMerger$Links" "linked" "[I", .static yX3_has, .initialized RX3, .code yX3_has cX3_has 2 (some .boolean)] ++ wsX10)
def wsX1_areTogether : List Cond := .code yX1_areTogether cX1_areTogether 3 (some .boolean) :: ([.fieldLink RX1 15 "CardMerger$Links" "groups" "[I", .static yX3_has, .initialized RX3, .code yX3_has cX3_has 2 (some .boolean)] ++ wsX10)
def wsX1_groupOf : List Cond := .code yX1_groupOf cX1_groupOf 2 (some .int) :: ([.fieldLink RX1 15 "CardMerger$Links" "groups" "[I"] ++ wsX10)
def wsX1_isLowestOfGroup : List Cond := .code yX1_isLowestOfGroup cX1_isLowestOfGroup 3 (some .boolean) :: ([.fieldLink RX1 15 "CardMerger$Links" "groups" "[I"] ++ wsX10)
def wsX1_putGroup : List Cond := .code yX1_putGroup cX1_putGroup 3 none :: ([.fieldLink RX1 15 "CardMerger$Links" "groups" "[I", .static yX3_has, .initialized RX3, .code yX3_has cX3_has 2 (some .boolean)] ++ wsX10)
def wsX1_connect : List Cond := .code yX1_connect cX1_connect 3 none :: ([.fieldLink RX1 9 "CardMerger$Links" "linked" "[I", .fieldLink RX1 15 "CardMerger$Links" "groups" "[I", .methodLink RX1 22 yX1_putGroup, .instanceMethod yX1_putGroup, .selects RX1 yX1_putGroup yX1_putGroup, .initialized RX1, .code yX1_putGroup cX1_putGroup 3 none, .static yX3_has, .initialized RX3, .code yX3_has cX3_has 2 (some .boolean)] ++ wsX10)
def wsX1_linkedToAny : List Cond := .code yX1_linkedToAny cX1_linkedToAny 4 (some .int) :: ([.fieldLink RX1 9 "CardMerger$Links" "linked" "[I", .static yX3_has, .initialized RX3, .code yX3_has cX3_has 2 (some .boolean)] ++ wsX10)
def wsX1_reachedFrom : List Cond := .code yX1_reachedFrom cX1_reachedFrom 4 (some .int) :: ([.methodLink RX1 30 yX1_linkedToAny, .instanceMethod yX1_linkedToAny, .selects RX1 yX1_linkedToAny yX1_linkedToAny, .initialized RX1, .code yX1_linkedToAny cX1_linkedToAny 4 (some .int), .fieldLink RX1 9 "CardMerger$Links" "linked" "[I", .static yX3_has, .initialized RX3, .code yX3_has cX3_has 2 (some .boolean)] ++ wsX10)
def wsX1_disconnect : List Cond := .code yX1_disconnect cX1_disconnect 3 none :: ([.fieldLink RX1 9 "CardMerger$Links" "linked" "[I", .methodLink RX1 26 yX1_reachedFrom, .instanceMethod yX1_reachedFrom, .selects RX1 yX1_reachedFrom yX1_reachedFrom, .initialized RX1, .code yX1_reachedFrom cX1_reachedFrom 4 (some .int), .methodLink RX1 30 yX1_linkedToAny, .instanceMethod yX1_linkedToAny, .selects RX1 yX1_linkedToAny yX1_linkedToAny, .code yX1_linkedToAny cX1_linkedToAny 4 (some .int), .static yX3_has, .initialized RX3, .code yX3_has cX3_has 2 (some .boolean), .methodLink RX1 22 yX1_putGroup, .instanceMethod yX1_putGroup, .selects RX1 yX1_putGroup yX1_putGroup, .code yX1_putGroup cX1_putGroup 3 none, .fieldLink RX1 15 "CardMerger$Links" "groups" "[I"] ++ wsX10)
def wsX2_init : List Cond := .code yX2_init cX2_init 3 none :: ([.methodLink RX2 3 objectInit, .instanceMethod objectInit, .code objectInit ⟨#[0xb1]⟩ 1 none, .arrayClass .int, .fieldLink RX2 9 "CardMerger$Refusals" "forGood" "[I", .classLink RX2 15 "[[I", .fieldLink RX2 17 "CardMerger$Refusals" "changesThen" "[[I"] ++ wsX20)
def wsX2_refuseForGood : List Cond := .code yX2_refuseForGood cX2_refuseForGood 3 none :: ([.fieldLink RX2 9 "CardMerger$Refusals" "forGood" "[I"] ++ wsX20)
def wsX2_refuseForNow : List Cond := .code yX2_refuseForNow cX2_refuseForNow 4 none :: ([.fieldLink RX2 17 "CardMerger$Refusals" "changesThen" "[[I"] ++ wsX20)
def wsX2_stands : List Cond := .code yX2_stands cX2_stands 4 (some .boolean) :: ([.fieldLink RX2 9 "CardMerger$Refusals" "forGood" "[I", .fieldLink RX2 17 "CardMerger$Refusals" "changesThen" "[[I", .static yX3_has, .initialized RX3, .code yX3_has cX3_has 2 (some .boolean)] ++ wsX20)
def wsX3_init_r1 : List Cond := [Cond.methodLink RX3 3 objectInit, Cond.instanceMethod objectInit, Cond.code objectInit ⟨#[0xb1]⟩ 1 none, Cond.classLink RX3 9 RX0, Cond.instantiable RX0 5, Cond.initialized RX0, Cond.fieldLink RX3 12 "CardMerger" "cards" "LCardMerger$Cards;", Cond.classLink RX3 16 RX1, Cond.instantiable RX1 2, Cond.initialized RX1, Cond.fieldLink RX3 19 "CardMerger" "links" "LCardMerger$Links;", Cond.classLink RX3 23 RX2, Cond.instantiable RX2 2, Cond.initialized RX2, Cond.fieldLink RX3 26 "CardMerger" "refusals" "LCardMerger$Refusals;", Cond.arrayClass .int, Cond.fieldLink RX3 30 "CardMerger" "pairsOfScore" "[I", Cond.methodLink RX3 11 yX0_init, Cond.instanceMethod yX0_init, Cond.code yX0_init cX0_init 1 none, Cond.methodLink RX0 3 objectInit, Cond.fieldLink RX0 9 "CardMerger$Cards" "books" "[I", Cond.classLink RX0 15 "[[I", Cond.fieldLink RX0 17 "CardMerger$Cards" "names" "[[I"]
def wsX3_init_r2 : List Cond := [Cond.fieldLink RX0 20 "CardMerger$Cards" "sets" "[[I", Cond.fieldLink RX0 23 "CardMerger$Cards" "mineChanges" "[I", Cond.fieldLink RX0 26 "CardMerger$Cards" "count" "I", Cond.methodLink RX3 18 yX1_init, Cond.instanceMethod yX1_init, Cond.code yX1_init cX1_init 2 none, Cond.methodLink RX1 3 objectInit, Cond.fieldLink RX1 9 "CardMerger$Links" "linked" "[I", Cond.fieldLink RX1 15 "CardMerger$Links" "groups" "[I", Cond.methodLink RX3 25 yX2_init, Cond.instanceMethod yX2_init, Cond.code yX2_init cX2_init 3 none, Cond.methodLink RX2 3 objectInit, Cond.fieldLink RX2 9 "CardMerger$Refusals" "forGood" "[I", Cond.classLink RX2 15 "[[I", Cond.fieldLink RX2 17 "CardMerger$Refusals" "changesThen" "[[I"]
def wsX3_init : List Cond := .code yX3_init cX3_init 1 none :: ((wsX3_init_r1 ++ wsX3_init_r2) ++ wsX00 ++ wsX30 ++ wsX10 ++ wsX20)
def wsX3_checkBook : List Cond := .code yX3_checkBook cX3_checkBook 2 none :: ([.classLink RX3 161 "java/lang/IndexOutOfBoundsException", .initialized "java/lang/IndexOutOfBoundsException"] ++ (vx_atS RX3 165 "java/lang/IndexOutOfBoundsException" ["java/lang/RuntimeException", "java/lang/Exception"]).filter goodWord)
def wsX3_isName : List Cond := .code yX3_isName cX3_isName 1 (some .boolean) :: ([])
def wsX3_checkArgument : List Cond := .code yX3_checkArgument cX3_checkArgument 1 none :: ([.classLink RX3 187 "java/lang/IllegalArgumentException", .initialized "java/lang/IllegalArgumentException"] ++ (vx_atS RX3 191 "java/lang/IllegalArgumentException" ["java/lang/RuntimeException", "java/lang/Exception"]).filter goodWord)
def wsX3_add_r1 : List Cond := [Cond.classLink RX3 50 "java/lang/IllegalStateException", Cond.initialized "java/lang/IllegalStateException", Cond.fieldLink RX3 12 "CardMerger" "cards" "LCardMerger$Cards;", Cond.methodLink RX3 34 yX3_checkBook, Cond.instanceMethod yX3_checkBook, Cond.selects RX3 yX3_checkBook yX3_checkBook, Cond.initialized RX3, Cond.code yX3_checkBook cX3_checkBook 2 none, Cond.classLink RX3 161 "java/lang/IndexOutOfBoundsException", Cond.initialized "java/lang/IndexOutOfBoundsException", Cond.methodLink RX3 38 yX3_isName, Cond.static yX3_isName, Cond.code yX3_isName cX3_isName 1 (some .boolean), Cond.methodLink RX3 42 yX3_checkArgument, Cond.static yX3_checkArgument, Cond.code yX3_checkArgument cX3_checkArgument 1 none, Cond.classLink RX3 187 "java/lang/IllegalArgumentException", Cond.initialized "java/lang/IllegalArgumentException", Cond.methodLink RX3 57 yX0_append, Cond.instanceMethod yX0_append, Cond.selects RX0 yX0_append yX0_append, Cond.initialized RX0, Cond.code yX0_append cX0_append 5 (some .int), Cond.fieldLink RX0 26 "CardMerger$Cards" "count" "I"]
def wsX3_add_r2 : List Cond := [Cond.fieldLink RX0 9 "CardMerger$Cards" "books" "[I", Cond.fieldLink RX0 17 "CardMerger$Cards" "names" "[[I"]
def wsX3_add : List Cond := .code yX3_add cX3_add 3 (some .int) :: ((wsX3_add_r1 ++ wsX3_add_r2) ++ wsX30 ++ wsX00 ++ (vx_atS RX3 54 "java/lang/IllegalStateException" ["java/lang/RuntimeException", "java/lang/Exception"]).filter goodWord ++ (vx_atS RX3 165 "java/lang/IndexOutOfBoundsException" ["java/lang/RuntimeException", "java/lang/Exception"]).filter goodWord ++ (vx_atS RX3 191 "java/lang/IllegalArgumentException" ["java/lang/RuntimeException", "java/lang/Exception"]).filter goodWord)
def wsX3_checkCard : List Cond := .code yX3_checkCard cX3_checkCard 2 none :: ([.classLink RX3 161 "java/lang/IndexOutOfBoundsException", .initialized "java/lang/IndexOutOfBoundsException", .fieldLink RX3 12 "CardMerger" "cards" "LCardMerger$Cards;"] ++ wsX30 ++ wsX00 ++ (vx_atS RX3 165 "java/lang/IndexOutOfBoundsException" ["java/lang/RuntimeException", "java/lang/Exception"]).filter goodWord)
def wsX3_isChangeable : List Cond := .code yX3_isChangeable cX3_isChangeable 1 (some .boolean) :: ([])
def wsX3_isKind : List Cond := .code yX3_isKind cX3_isKind 1 (some .boolean) :: ([])
def wsX3_isValue : List Cond := .code yX3_isValue cX3_isValue 1 (some .boolean) :: ([])
def wsX3_turn_r1 : List Cond := [Cond.fieldLink RX3 12 "CardMerger" "cards" "LCardMerger$Cards;", Cond.methodLink RX3 61 yX3_checkCard, Cond.instanceMethod yX3_checkCard, Cond.selects RX3 yX3_checkCard yX3_checkCard, Cond.initialized RX3, Cond.code yX3_checkCard cX3_checkCard 2 none, Cond.classLink RX3 161 "java/lang/IndexOutOfBoundsException", Cond.initialized "java/lang/IndexOutOfBoundsException", Cond.methodLink RX3 64 yX3_isChangeable, Cond.static yX3_isChangeable, Cond.code yX3_isChangeable cX3_isChangeable 1 (some .boolean), Cond.methodLink RX3 67 yX3_isKind, Cond.static yX3_isKind, Cond.code yX3_isKind cX3_isKind 1 (some .boolean), Cond.methodLink RX3 70 yX3_isValue, Cond.static yX3_isValue, Cond.code yX3_isValue cX3_isValue 1 (some .boolean), Cond.methodLink RX3 42 yX3_checkArgument, Cond.static yX3_checkArgument, Cond.code yX3_checkArgument cX3_checkArgument 1 none, Cond.classLink RX3 187 "java/lang/IllegalArgumentException", Cond.initialized "java/lang/IllegalArgumentException", Cond.methodLink RX3 73 yX0_setOf, Cond.instanceMethod yX0_setOf]
def wsX3_turn_r2 : List Cond := [Cond.selects RX0 yX0_setOf yX0_setOf, Cond.initialized RX0, Cond.code yX0_setOf cX0_setOf 4 (some .int), Cond.fieldLink RX0 20 "CardMerger$Cards" "sets" "[[I", Cond.methodLink RX3 77 yX0_putSet, Cond.instanceMethod yX0_putSet, Cond.selects RX0 yX0_putSet yX0_putSet, Cond.code yX0_putSet cX0_putSet 5 none, Cond.fieldLink RX0 23 "CardMerger$Cards" "mineChanges" "[I", Cond.methodLink RX0 30 yX0_setOf, Cond.methodLink RX3 81 yX3_has, Cond.static yX3_has, Cond.code yX3_has cX3_has 2 (some .boolean)]
def wsX3_turn : List Cond := .code yX3_turn cX3_turn 6 (some .boolean) :: ((wsX3_turn_r1 ++ wsX3_turn_r2) ++ wsX30 ++ wsX00 ++ (vx_atS RX3 165 "java/lang/IndexOutOfBoundsException" ["java/lang/RuntimeException", "java/lang/Exception"]).filter goodWord ++ (vx_atS RX3 191 "java/lang/IllegalArgumentException" ["java/lang/RuntimeException", "java/lang/Exception"]).filter goodWord)
def wsX3_rename_r1 : List Cond := [Cond.fieldLink RX3 12 "CardMerger" "cards" "LCardMerger$Cards;", Cond.methodLink RX3 61 yX3_checkCard, Cond.instanceMethod yX3_checkCard, Cond.selects RX3 yX3_checkCard yX3_checkCard, Cond.initialized RX3, Cond.code yX3_checkCard cX3_checkCard 2 none, Cond.classLink RX3 161 "java/lang/IndexOutOfBoundsException", Cond.initialized "java/lang/IndexOutOfBoundsException", Cond.methodLink RX3 64 yX3_isChangeable, Cond.static yX3_isChangeable, Cond.code yX3_isChangeable cX3_isChangeable 1 (some .boolean), Cond.methodLink RX3 38 yX3_isName, Cond.static yX3_isName, Cond.code yX3_isName cX3_isName 1 (some .boolean), Cond.methodLink RX3 42 yX3_checkArgument, Cond.static yX3_checkArgument, Cond.code yX3_checkArgument cX3_checkArgument 1 none, Cond.classLink RX3 187 "java/lang/IllegalArgumentException", Cond.initialized "java/lang/IllegalArgumentException", Cond.methodLink RX3 85 yX0_nameIn, Cond.instanceMethod yX0_nameIn, Cond.selects RX0 yX0_nameIn yX0_nameIn, Cond.initialized RX0, Cond.code yX0_nameIn cX0_nameIn 3 (some .int)]
def wsX3_rename_r2 : List Cond := [Cond.fieldLink RX0 17 "CardMerger$Cards" "names" "[[I", Cond.methodLink RX3 88 yX0_putName, Cond.instanceMethod yX0_putName, Cond.selects RX0 yX0_putName yX0_putName, Cond.code yX0_putName cX0_putName 4 none, Cond.fieldLink RX0 23 "CardMerger$Cards" "mineChanges" "[I"]
def wsX3_rename : List Cond := .code yX3_rename cX3_rename 5 (some .int) :: ((wsX3_rename_r1 ++ wsX3_rename_r2) ++ wsX30 ++ wsX00 ++ (vx_atS RX3 165 "java/lang/IndexOutOfBoundsException" ["java/lang/RuntimeException", "java/lang/Exception"]).filter goodWord ++ (vx_atS RX3 191 "java/lang/IllegalArgumentException" ["java/lang/RuntimeException", "java/lang/Exception"]).filter goodWord)
def wsX3_sync_r1 : List Cond := [Cond.fieldLink RX3 12 "CardMerger" "cards" "LCardMerger$Cards;", Cond.methodLink RX3 34 yX3_checkBook, Cond.instanceMethod yX3_checkBook, Cond.selects RX3 yX3_checkBook yX3_checkBook, Cond.initialized RX3, Cond.code yX3_checkBook cX3_checkBook 2 none, Cond.classLink RX3 161 "java/lang/IndexOutOfBoundsException", Cond.initialized "java/lang/IndexOutOfBoundsException", Cond.methodLink RX3 92 yX0_isIn, Cond.instanceMethod yX0_isIn, Cond.selects RX0 yX0_isIn yX0_isIn, Cond.initialized RX0, Cond.code yX0_isIn cX0_isIn 3 (some .boolean), Cond.fieldLink RX0 9 "CardMerger$Cards" "books" "[I", Cond.methodLink RX3 95 yX0_namesClash, Cond.instanceMethod yX0_namesClash, Cond.selects RX0 yX0_namesClash yX0_namesClash, Cond.code yX0_namesClash cX0_namesClash 5 (some .boolean), Cond.methodLink RX0 38 yX0_nameIn, Cond.instanceMethod yX0_nameIn, Cond.selects RX0 yX0_nameIn yX0_nameIn, Cond.code yX0_nameIn cX0_nameIn 3 (some .int), Cond.fieldLink RX0 17 "CardMerger$Cards" "names" "[[I", Cond.methodLink RX3 98 yX0_mergeVersions]
def wsX3_sync_r2 : List Cond := [Cond.instanceMethod yX0_mergeVersions, Cond.selects RX0 yX0_mergeVersions yX0_mergeVersions, Cond.code yX0_mergeVersions cX0_mergeVersions 6 none, Cond.methodLink RX0 42 yX0_mergedName, Cond.instanceMethod yX0_mergedName, Cond.selects RX0 yX0_mergedName yX0_mergedName, Cond.code yX0_mergedName cX0_mergedName 3 (some .int), Cond.methodLink RX0 46 yX0_mergedSet, Cond.instanceMethod yX0_mergedSet, Cond.selects RX0 yX0_mergedSet yX0_mergedSet, Cond.code yX0_mergedSet cX0_mergedSet 6 (some .int), Cond.methodLink RX0 30 yX0_setOf, Cond.instanceMethod yX0_setOf, Cond.selects RX0 yX0_setOf yX0_setOf, Cond.code yX0_setOf cX0_setOf 4 (some .int), Cond.fieldLink RX0 20 "CardMerger$Cards" "sets" "[[I", Cond.methodLink RX0 49 yX0_putName, Cond.instanceMethod yX0_putName, Cond.selects RX0 yX0_putName yX0_putName, Cond.code yX0_putName cX0_putName 4 none, Cond.fieldLink RX0 23 "CardMerger$Cards" "mineChanges" "[I", Cond.methodLink RX0 53 yX0_putSet, Cond.instanceMethod yX0_putSet, Cond.selects RX0 yX0_putSet yX0_putSet]
def wsX3_sync_r3 : List Cond := [Cond.code yX0_putSet cX0_putSet 5 none]
def wsX3_sync : List Cond := .code yX3_sync cX3_sync 4 (some .int) :: ((wsX3_sync_r1 ++ (wsX3_sync_r2 ++ wsX3_sync_r3)) ++ wsX30 ++ wsX00 ++ (vx_atS RX3 165 "java/lang/IndexOutOfBoundsException" ["java/lang/RuntimeException", "java/lang/Exception"]).filter goodWord)
def wsX3_cards : List Cond := .code yX3_cards cX3_cards 1 (some .int) :: ([.fieldLink RX3 12 "CardMerger" "cards" "LCardMerger$Cards;"] ++ wsX30 ++ wsX00)
def wsX3_isVersion : List Cond := .code yX3_isVersion cX3_isVersion 1 (some .boolean) :: ([.methodLink RX3 64 yX3_isChangeable, .static yX3_isChangeable, .initialized RX3, .code yX3_isChangeable cX3_isChangeable 1 (some .boolean)])
def wsX3_values_r1 : List Cond := [Cond.fieldLink RX3 12 "CardMerger" "cards" "LCardMerger$Cards;", Cond.methodLink RX3 61 yX3_checkCard, Cond.instanceMethod yX3_checkCard, Cond.selects RX3 yX3_checkCard yX3_checkCard, Cond.initialized RX3, Cond.code yX3_checkCard cX3_checkCard 2 none, Cond.classLink RX3 161 "java/lang/IndexOutOfBoundsException", Cond.initialized "java/lang/IndexOutOfBoundsException", Cond.methodLink RX3 101 yX3_isVersion, Cond.static yX3_isVersion, Cond.code yX3_isVersion cX3_isVersion 1 (some .boolean), Cond.methodLink RX3 64 yX3_isChangeable, Cond.static yX3_isChangeable, Cond.code yX3_isChangeable cX3_isChangeable 1 (some .boolean), Cond.methodLink RX3 67 yX3_isKind, Cond.static yX3_isKind, Cond.code yX3_isKind cX3_isKind 1 (some .boolean), Cond.methodLink RX3 42 yX3_checkArgument, Cond.static yX3_checkArgument, Cond.code yX3_checkArgument cX3_checkArgument 1 none, Cond.classLink RX3 187 "java/lang/IllegalArgumentException", Cond.initialized "java/lang/IllegalArgumentException", Cond.methodLink RX3 73 yX0_setOf, Cond.instanceMethod yX0_setOf]
def wsX3_values_r2 : List Cond := [Cond.selects RX0 yX0_setOf yX0_setOf, Cond.initialized RX0, Cond.code yX0_setOf cX0_setOf 4 (some .int), Cond.fieldLink RX0 20 "CardMerger$Cards" "sets" "[[I"]
def wsX3_values : List Cond := .code yX3_values cX3_values 4 (some .int) :: ((wsX3_values_r1 ++ wsX3_values_r2) ++ wsX30 ++ wsX00 ++ (vx_atS RX3 165 "java/lang/IndexOutOfBoundsException" ["java/lang/RuntimeException", "java/lang/Exception"]).filter goodWord ++ (vx_atS RX3 191 "java/lang/IllegalArgumentException" ["java/lang/RuntimeException", "java/lang/Exception"]).filter goodWord)
def wsX3_nameOf_r1 : List Cond := [Cond.fieldLink RX3 12 "CardMerger" "cards" "LCardMerger$Cards;", Cond.methodLink RX3 61 yX3_checkCard, Cond.instanceMethod yX3_checkCard, Cond.selects RX3 yX3_checkCard yX3_checkCard, Cond.initialized RX3, Cond.code yX3_checkCard cX3_checkCard 2 none, Cond.classLink RX3 161 "java/lang/IndexOutOfBoundsException", Cond.initialized "java/lang/IndexOutOfBoundsException", Cond.methodLink RX3 101 yX3_isVersion, Cond.static yX3_isVersion, Cond.code yX3_isVersion cX3_isVersion 1 (some .boolean), Cond.methodLink RX3 64 yX3_isChangeable, Cond.static yX3_isChangeable, Cond.code yX3_isChangeable cX3_isChangeable 1 (some .boolean), Cond.methodLink RX3 42 yX3_checkArgument, Cond.static yX3_checkArgument, Cond.code yX3_checkArgument cX3_checkArgument 1 none, Cond.classLink RX3 187 "java/lang/IllegalArgumentException", Cond.initialized "java/lang/IllegalArgumentException", Cond.methodLink RX3 85 yX0_nameIn, Cond.instanceMethod yX0_nameIn, Cond.selects RX0 yX0_nameIn yX0_nameIn, Cond.initialized RX0, Cond.code yX0_nameIn cX0_nameIn 3 (some .int)]
def wsX3_nameOf_r2 : List Cond := [Cond.fieldLink RX0 17 "CardMerger$Cards" "names" "[[I"]
def wsX3_nameOf : List Cond := .code yX3_nameOf cX3_nameOf 3 (some .int) :: ((wsX3_nameOf_r1 ++ wsX3_nameOf_r2) ++ wsX30 ++ wsX00 ++ (vx_atS RX3 165 "java/lang/IndexOutOfBoundsException" ["java/lang/RuntimeException", "java/lang/Exception"]).filter goodWord ++ (vx_atS RX3 191 "java/lang/IllegalArgumentException" ["java/lang/RuntimeException", "java/lang/Exception"]).filter goodWord)
def wsX3_merged_r1 : List Cond := [Cond.fieldLink RX3 12 "CardMerger" "cards" "LCardMerger$Cards;", Cond.methodLink RX3 61 yX3_checkCard, Cond.instanceMethod yX3_checkCard, Cond.selects RX3 yX3_checkCard yX3_checkCard, Cond.initialized RX3, Cond.code yX3_checkCard cX3_checkCard 2 none, Cond.classLink RX3 161 "java/lang/IndexOutOfBoundsException", Cond.initialized "java/lang/IndexOutOfBoundsException", Cond.methodLink RX3 67 yX3_isKind, Cond.static yX3_isKind, Cond.code yX3_isKind cX3_isKind 1 (some .boolean), Cond.methodLink RX3 42 yX3_checkArgument, Cond.static yX3_checkArgument, Cond.code yX3_checkArgument cX3_checkArgument 1 none, Cond.classLink RX3 187 "java/lang/IllegalArgumentException", Cond.initialized "java/lang/IllegalArgumentException", Cond.methodLink RX3 104 yX0_mergedSet, Cond.instanceMethod yX0_mergedSet, Cond.selects RX0 yX0_mergedSet yX0_mergedSet, Cond.initialized RX0, Cond.code yX0_mergedSet cX0_mergedSet 6 (some .int), Cond.methodLink RX0 30 yX0_setOf, Cond.instanceMethod yX0_setOf, Cond.selects RX0 yX0_setOf yX0_setOf]
def wsX3_merged_r2 : List Cond := [Cond.code yX0_setOf cX0_setOf 4 (some .int), Cond.fieldLink RX0 20 "CardMerger$Cards" "sets" "[[I"]
def wsX3_merged : List Cond := .code yX3_merged cX3_merged 3 (some .int) :: ((wsX3_merged_r1 ++ wsX3_merged_r2) ++ wsX30 ++ wsX00 ++ (vx_atS RX3 165 "java/lang/IndexOutOfBoundsException" ["java/lang/RuntimeException", "java/lang/Exception"]).filter goodWord ++ (vx_atS RX3 191 "java/lang/IllegalArgumentException" ["java/lang/RuntimeException", "java/lang/Exception"]).filter goodWord)
def wsX3_mergedByValues_r1 : List Cond := [Cond.fieldLink RX3 12 "CardMerger" "cards" "LCardMerger$Cards;", Cond.methodLink RX3 61 yX3_checkCard, Cond.instanceMethod yX3_checkCard, Cond.selects RX3 yX3_checkCard yX3_checkCard, Cond.initialized RX3, Cond.code yX3_checkCard cX3_checkCard 2 none, Cond.classLink RX3 161 "java/lang/IndexOutOfBoundsException", Cond.initialized "java/lang/IndexOutOfBoundsException", Cond.methodLink RX3 67 yX3_isKind, Cond.static yX3_isKind, Cond.code yX3_isKind cX3_isKind 1 (some .boolean), Cond.methodLink RX3 42 yX3_checkArgument, Cond.static yX3_checkArgument, Cond.code yX3_checkArgument cX3_checkArgument 1 none, Cond.classLink RX3 187 "java/lang/IllegalArgumentException", Cond.initialized "java/lang/IllegalArgumentException", Cond.methodLink RX3 107 yX0_mergedSetByValues, Cond.instanceMethod yX0_mergedSetByValues, Cond.selects RX0 yX0_mergedSetByValues yX0_mergedSetByValues, Cond.initialized RX0, Cond.code yX0_mergedSetByValues cX0_mergedSetByValues 13 (some .int), Cond.methodLink RX0 30 yX0_setOf, Cond.instanceMethod yX0_setOf, Cond.selects RX0 yX0_setOf yX0_setOf]
def wsX3_mergedByValues_r2 : List Cond := [Cond.code yX0_setOf cX0_setOf 4 (some .int), Cond.fieldLink RX0 20 "CardMerger$Cards" "sets" "[[I", Cond.static yX3_has, Cond.code yX3_has cX3_has 2 (some .boolean)]
def wsX3_mergedByValues : List Cond := .code yX3_mergedByValues cX3_mergedByValues 3 (some .int) :: ((wsX3_mergedByValues_r1 ++ wsX3_mergedByValues_r2) ++ wsX30 ++ wsX00 ++ (vx_atS RX3 165 "java/lang/IndexOutOfBoundsException" ["java/lang/RuntimeException", "java/lang/Exception"]).filter goodWord ++ (vx_atS RX3 191 "java/lang/IllegalArgumentException" ["java/lang/RuntimeException", "java/lang/Exception"]).filter goodWord)
def wsX3_unsynced_r1 : List Cond := [Cond.fieldLink RX3 12 "CardMerger" "cards" "LCardMerger$Cards;", Cond.methodLink RX3 34 yX3_checkBook, Cond.instanceMethod yX3_checkBook, Cond.selects RX3 yX3_checkBook yX3_checkBook, Cond.initialized RX3, Cond.code yX3_checkBook cX3_checkBook 2 none, Cond.classLink RX3 161 "java/lang/IndexOutOfBoundsException", Cond.initialized "java/lang/IndexOutOfBoundsException", Cond.methodLink RX3 92 yX0_isIn, Cond.instanceMethod yX0_isIn, Cond.selects RX0 yX0_isIn yX0_isIn, Cond.initialized RX0, Cond.code yX0_isIn cX0_isIn 3 (some .boolean), Cond.fieldLink RX0 9 "CardMerger$Cards" "books" "[I", Cond.methodLink RX3 110 yX0_isSynced, Cond.instanceMethod yX0_isSynced, Cond.selects RX0 yX0_isSynced yX0_isSynced, Cond.code yX0_isSynced cX0_isSynced 6 (some .boolean), Cond.methodLink RX0 42 yX0_mergedName, Cond.instanceMethod yX0_mergedName, Cond.selects RX0 yX0_mergedName yX0_mergedName, Cond.code yX0_mergedName cX0_mergedName 3 (some .int), Cond.methodLink RX0 38 yX0_nameIn, Cond.instanceMethod yX0_nameIn]
def wsX3_unsynced_r2 : List Cond := [Cond.selects RX0 yX0_nameIn yX0_nameIn, Cond.code yX0_nameIn cX0_nameIn 3 (some .int), Cond.fieldLink RX0 17 "CardMerger$Cards" "names" "[[I", Cond.methodLink RX0 46 yX0_mergedSet, Cond.instanceMethod yX0_mergedSet, Cond.selects RX0 yX0_mergedSet yX0_mergedSet, Cond.code yX0_mergedSet cX0_mergedSet 6 (some .int), Cond.methodLink RX0 30 yX0_setOf, Cond.instanceMethod yX0_setOf, Cond.selects RX0 yX0_setOf yX0_setOf, Cond.code yX0_setOf cX0_setOf 4 (some .int), Cond.fieldLink RX0 20 "CardMerger$Cards" "sets" "[[I"]
def wsX3_unsynced : List Cond := .code yX3_unsynced cX3_unsynced 4 (some .int) :: ((wsX3_unsynced_r1 ++ wsX3_unsynced_r2) ++ wsX30 ++ wsX00 ++ (vx_atS RX3 165 "java/lang/IndexOutOfBoundsException" ["java/lang/RuntimeException", "java/lang/Exception"]).filter goodWord)
def wsX3_checkTwoCards : List Cond := .code yX3_checkTwoCards cX3_checkTwoCards 3 none :: ([.methodLink RX3 61 yX3_checkCard, .instanceMethod yX3_checkCard, .selects RX3 yX3_checkCard yX3_checkCard, .initialized RX3, .code yX3_checkCard cX3_checkCard 2 none, .classLink RX3 161 "java/lang/IndexOutOfBoundsException", .initialized "java/lang/IndexOutOfBoundsException", .fieldLink RX3 12 "CardMerger" "cards" "LCardMerger$Cards;", .methodLink RX3 42 yX3_checkArgument, .static yX3_checkArgument, .code yX3_checkArgument cX3_checkArgument 1 none, .classLink RX3 187 "java/lang/IllegalArgumentException", .initialized "java/lang/IllegalArgumentException"] ++ wsX30 ++ wsX00 ++ (vx_atS RX3 165 "java/lang/IndexOutOfBoundsException" ["java/lang/RuntimeException", "java/lang/Exception"]).filter goodWord ++ (vx_atS RX3 191 "java/lang/IllegalArgumentException" ["java/lang/RuntimeException", "java/lang/Exception"]).filter goodWord)
def wsX3_link_r1 : List Cond := [Cond.classLink RX3 50 "java/lang/IllegalStateException", Cond.initialized "java/lang/IllegalStateException", Cond.fieldLink RX3 19 "CardMerger" "links" "LCardMerger$Links;", Cond.methodLink RX3 113 yX3_checkTwoCards, Cond.instanceMethod yX3_checkTwoCards, Cond.selects RX3 yX3_checkTwoCards yX3_checkTwoCards, Cond.initialized RX3, Cond.code yX3_checkTwoCards cX3_checkTwoCards 3 none, Cond.methodLink RX3 61 yX3_checkCard, Cond.instanceMethod yX3_checkCard, Cond.selects RX3 yX3_checkCard yX3_checkCard, Cond.code yX3_checkCard cX3_checkCard 2 none, Cond.classLink RX3 161 "java/lang/IndexOutOfBoundsException", Cond.initialized "java/lang/IndexOutOfBoundsException", Cond.fieldLink RX3 12 "CardMerger" "cards" "LCardMerger$Cards;", Cond.methodLink RX3 42 yX3_checkArgument, Cond.static yX3_checkArgument, Cond.code yX3_checkArgument cX3_checkArgument 1 none, Cond.classLink RX3 187 "java/lang/IllegalArgumentException", Cond.initialized "java/lang/IllegalArgumentException", Cond.methodLink RX3 117 yX1_areLinked, Cond.instanceMethod yX1_areLinked, Cond.selects RX1 yX1_areLinked yX1_areLinked, Cond.initialized RX1]
def wsX3_link_r2 : List Cond := [Cond.code yX1_areLinked cX1_areLinked 3 (some .boolean), Cond.fieldLink RX1 9 "CardMerger$Links" "linked" "[I", Cond.static yX3_has, Cond.code yX3_has cX3_has 2 (some .boolean), Cond.methodLink RX3 122 yX1_connect, Cond.instanceMethod yX1_connect, Cond.selects RX1 yX1_connect yX1_connect, Cond.code yX1_connect cX1_connect 3 none, Cond.fieldLink RX1 15 "CardMerger$Links" "groups" "[I", Cond.methodLink RX1 22 yX1_putGroup, Cond.instanceMethod yX1_putGroup, Cond.selects RX1 yX1_putGroup yX1_putGroup, Cond.code yX1_putGroup cX1_putGroup 3 none, Cond.methodLink RX3 125 yX1_groupOf, Cond.instanceMethod yX1_groupOf, Cond.selects RX1 yX1_groupOf yX1_groupOf, Cond.code yX1_groupOf cX1_groupOf 2 (some .int), Cond.methodLink RX3 129 yJ6_bitCount_0f7a4, Cond.static yJ6_bitCount_0f7a4, Cond.initialized RJ6, Cond.code yJ6_bitCount_0f7a4 cJ6_bitCount_0f7a4 1 (some .int), Cond.constant RJ6 265 (1431655765), Cond.constant RJ6 266 (858993459), Cond.constant RJ6 267 (252645135)]
def wsX3_link : List Cond := .code yX3_link cX3_link 3 (some .int) :: ((wsX3_link_r1 ++ wsX3_link_r2) ++ wsX30 ++ wsX00 ++ wsX10 ++ (vx_atS RX3 54 "java/lang/IllegalStateException" ["java/lang/RuntimeException", "java/lang/Exception"]).filter goodWord ++ (vx_atS RX3 165 "java/lang/IndexOutOfBoundsException" ["java/lang/RuntimeException", "java/lang/Exception"]).filter goodWord ++ (vx_atS RX3 191 "java/lang/IllegalArgumentException" ["java/lang/RuntimeException", "java/lang/Exception"]).filter goodWord)
def wsX3_cut_r1 : List Cond := [Cond.classLink RX3 50 "java/lang/IllegalStateException", Cond.initialized "java/lang/IllegalStateException", Cond.fieldLink RX3 19 "CardMerger" "links" "LCardMerger$Links;", Cond.methodLink RX3 61 yX3_checkCard, Cond.instanceMethod yX3_checkCard, Cond.selects RX3 yX3_checkCard yX3_checkCard, Cond.initialized RX3, Cond.code yX3_checkCard cX3_checkCard 2 none, Cond.classLink RX3 161 "java/lang/IndexOutOfBoundsException", Cond.initialized "java/lang/IndexOutOfBoundsException", Cond.fieldLink RX3 12 "CardMerger" "cards" "LCardMerger$Cards;", Cond.methodLink RX3 117 yX1_areLinked, Cond.instanceMethod yX1_areLinked, Cond.selects RX1 yX1_areLinked yX1_areLinked, Cond.initialized RX1, Cond.code yX1_areLinked cX1_areLinked 3 (some .boolean), Cond.fieldLink RX1 9 "CardMerger$Links" "linked" "[I", Cond.static yX3_has, Cond.code yX3_has cX3_has 2 (some .boolean), Cond.methodLink RX3 136 yX1_disconnect, Cond.instanceMethod yX1_disconnect, Cond.selects RX1 yX1_disconnect yX1_disconnect, Cond.code yX1_disconnect cX1_disconnect 3 none, Cond.methodLink RX1 26 yX1_reachedFrom]
def wsX3_cut_r2 : List Cond := [Cond.instanceMethod yX1_reachedFrom, Cond.selects RX1 yX1_reachedFrom yX1_reachedFrom, Cond.code yX1_reachedFrom cX1_reachedFrom 4 (some .int), Cond.methodLink RX1 30 yX1_linkedToAny, Cond.instanceMethod yX1_linkedToAny, Cond.selects RX1 yX1_linkedToAny yX1_linkedToAny, Cond.code yX1_linkedToAny cX1_linkedToAny 4 (some .int), Cond.methodLink RX1 22 yX1_putGroup, Cond.instanceMethod yX1_putGroup, Cond.selects RX1 yX1_putGroup yX1_putGroup, Cond.code yX1_putGroup cX1_putGroup 3 none, Cond.fieldLink RX1 15 "CardMerger$Links" "groups" "[I", Cond.methodLink RX3 139 yX1_areTogether, Cond.instanceMethod yX1_areTogether, Cond.selects RX1 yX1_areTogether yX1_areTogether, Cond.code yX1_areTogether cX1_areTogether 3 (some .boolean)]
def wsX3_cut : List Cond := .code yX3_cut cX3_cut 3 (some .boolean) :: ((wsX3_cut_r1 ++ wsX3_cut_r2) ++ wsX30 ++ wsX00 ++ wsX10 ++ (vx_atS RX3 54 "java/lang/IllegalStateException" ["java/lang/RuntimeException", "java/lang/Exception"]).filter goodWord ++ (vx_atS RX3 165 "java/lang/IndexOutOfBoundsException" ["java/lang/RuntimeException", "java/lang/Exception"]).filter goodWord)
def wsX3_group : List Cond := .code yX3_group cX3_group 2 (some .int) :: ([.fieldLink RX3 19 "CardMerger" "links" "LCardMerger$Links;", .methodLink RX3 61 yX3_checkCard, .instanceMethod yX3_checkCard, .selects RX3 yX3_checkCard yX3_checkCard, .initialized RX3, .code yX3_checkCard cX3_checkCard 2 none, .classLink RX3 161 "java/lang/IndexOutOfBoundsException", .initialized "java/lang/IndexOutOfBoundsException", .fieldLink RX3 12 "CardMerger" "cards" "LCardMerger$Cards;", .methodLink RX3 125 yX1_groupOf, .instanceMethod yX1_groupOf, .selects RX1 yX1_groupOf yX1_groupOf, .initialized RX1, .code yX1_groupOf cX1_groupOf 2 (some .int), .fieldLink RX1 15 "CardMerger$Links" "groups" "[I"] ++ wsX30 ++ wsX00 ++ wsX10 ++ (vx_atS RX3 165 "java/lang/IndexOutOfBoundsException" ["java/lang/RuntimeException", "java/lang/Exception"]).filter goodWord)
def wsX3_groups : List Cond := .code yX3_groups cX3_groups 3 (some .int) :: ([.fieldLink RX3 12 "CardMerger" "cards" "LCardMerger$Cards;", .fieldLink RX3 19 "CardMerger" "links" "LCardMerger$Links;", .methodLink RX3 142 yX1_isLowestOfGroup, .instanceMethod yX1_isLowestOfGroup, .selects RX1 yX1_isLowestOfGroup yX1_isLowestOfGroup, .initialized RX1, .code yX1_isLowestOfGroup cX1_isLowestOfGroup 3 (some .boolean), .fieldLink RX1 15 "CardMerger$Links" "groups" "[I"] ++ wsX30 ++ wsX00 ++ wsX10)
def wsX3_preferred_r1 : List Cond := [Cond.fieldLink RX3 12 "CardMerger" "cards" "LCardMerger$Cards;", Cond.fieldLink RX3 19 "CardMerger" "links" "LCardMerger$Links;", Cond.methodLink RX3 61 yX3_checkCard, Cond.instanceMethod yX3_checkCard, Cond.selects RX3 yX3_checkCard yX3_checkCard, Cond.initialized RX3, Cond.code yX3_checkCard cX3_checkCard 2 none, Cond.classLink RX3 161 "java/lang/IndexOutOfBoundsException", Cond.initialized "java/lang/IndexOutOfBoundsException", Cond.methodLink RX3 125 yX1_groupOf, Cond.instanceMethod yX1_groupOf, Cond.selects RX1 yX1_groupOf yX1_groupOf, Cond.initialized RX1, Cond.code yX1_groupOf cX1_groupOf 2 (some .int), Cond.fieldLink RX1 15 "CardMerger$Links" "groups" "[I", Cond.methodLink RX3 145 yX0_preferredOf, Cond.instanceMethod yX0_preferredOf, Cond.selects RX0 yX0_preferredOf yX0_preferredOf, Cond.initialized RX0, Cond.code yX0_preferredOf cX0_preferredOf 5 (some .int), Cond.fieldLink RX0 26 "CardMerger$Cards" "count" "I", Cond.static yX3_has, Cond.code yX3_has cX3_has 2 (some .boolean), Cond.methodLink RX0 62 yX0_isAhead]
def wsX3_preferred_r2 : List Cond := [Cond.instanceMethod yX0_isAhead, Cond.selects RX0 yX0_isAhead yX0_isAhead, Cond.code yX0_isAhead cX0_isAhead 3 (some .boolean), Cond.fieldLink RX0 9 "CardMerger$Cards" "books" "[I"]
def wsX3_preferred : List Cond := .code yX3_preferred cX3_preferred 2 (some .int) :: ((wsX3_preferred_r1 ++ wsX3_preferred_r2) ++ wsX30 ++ wsX00 ++ wsX10 ++ (vx_atS RX3 165 "java/lang/IndexOutOfBoundsException" ["java/lang/RuntimeException", "java/lang/Exception"]).filter goodWord)
def wsX3_shown_r1 : List Cond := [Cond.fieldLink RX3 12 "CardMerger" "cards" "LCardMerger$Cards;", Cond.fieldLink RX3 19 "CardMerger" "links" "LCardMerger$Links;", Cond.methodLink RX3 61 yX3_checkCard, Cond.instanceMethod yX3_checkCard, Cond.selects RX3 yX3_checkCard yX3_checkCard, Cond.initialized RX3, Cond.code yX3_checkCard cX3_checkCard 2 none, Cond.classLink RX3 161 "java/lang/IndexOutOfBoundsException", Cond.initialized "java/lang/IndexOutOfBoundsException", Cond.methodLink RX3 67 yX3_isKind, Cond.static yX3_isKind, Cond.code yX3_isKind cX3_isKind 1 (some .boolean), Cond.methodLink RX3 42 yX3_checkArgument, Cond.static yX3_checkArgument, Cond.code yX3_checkArgument cX3_checkArgument 1 none, Cond.classLink RX3 187 "java/lang/IllegalArgumentException", Cond.initialized "java/lang/IllegalArgumentException", Cond.methodLink RX3 125 yX1_groupOf, Cond.instanceMethod yX1_groupOf, Cond.selects RX1 yX1_groupOf yX1_groupOf, Cond.initialized RX1, Cond.code yX1_groupOf cX1_groupOf 2 (some .int), Cond.fieldLink RX1 15 "CardMerger$Links" "groups" "[I", Cond.methodLink RX3 148 yX0_mineOfAll]
def wsX3_shown_r2 : List Cond := [Cond.instanceMethod yX0_mineOfAll, Cond.selects RX0 yX0_mineOfAll yX0_mineOfAll, Cond.initialized RX0, Cond.code yX0_mineOfAll cX0_mineOfAll 5 (some .int), Cond.fieldLink RX0 26 "CardMerger$Cards" "count" "I", Cond.static yX3_has, Cond.code yX3_has cX3_has 2 (some .boolean), Cond.methodLink RX0 30 yX0_setOf, Cond.instanceMethod yX0_setOf, Cond.selects RX0 yX0_setOf yX0_setOf, Cond.code yX0_setOf cX0_setOf 4 (some .int), Cond.fieldLink RX0 20 "CardMerger$Cards" "sets" "[[I"]
def wsX3_shown : List Cond := .code yX3_shown cX3_shown 3 (some .int) :: ((wsX3_shown_r1 ++ wsX3_shown_r2) ++ wsX30 ++ wsX00 ++ wsX10 ++ (vx_atS RX3 165 "java/lang/IndexOutOfBoundsException" ["java/lang/RuntimeException", "java/lang/Exception"]).filter goodWord ++ (vx_atS RX3 191 "java/lang/IllegalArgumentException" ["java/lang/RuntimeException", "java/lang/Exception"]).filter goodWord)
def wsX3_takeOutOfMine : List Cond := .code yX3_takeOutOfMine cX3_takeOutOfMine 7 (some .int) :: ([.fieldLink RX3 12 "CardMerger" "cards" "LCardMerger$Cards;", .methodLink RX3 73 yX0_setOf, .instanceMethod yX0_setOf, .selects RX0 yX0_setOf yX0_setOf, .initialized RX0, .code yX0_setOf cX0_setOf 4 (some .int), .fieldLink RX0 20 "CardMerger$Cards" "sets" "[[I", .methodLink RX3 81 yX3_has, .static yX3_has, .initialized RX3, .code yX3_has cX3_has 2 (some .boolean), .methodLink RX3 77 yX0_putSet, .instanceMethod yX0_putSet, .selects RX0 yX0_putSet yX0_putSet, .code yX0_putSet cX0_putSet 5 none, .fieldLink RX0 23 "CardMerger$Cards" "mineChanges" "[I", .methodLink RX0 30 yX0_setOf] ++ wsX30 ++ wsX00)
def wsX3_edit_r1 : List Cond := [Cond.fieldLink RX3 19 "CardMerger" "links" "LCardMerger$Links;", Cond.fieldLink RX3 12 "CardMerger" "cards" "LCardMerger$Cards;", Cond.methodLink RX3 61 yX3_checkCard, Cond.instanceMethod yX3_checkCard, Cond.selects RX3 yX3_checkCard yX3_checkCard, Cond.initialized RX3, Cond.code yX3_checkCard cX3_checkCard 2 none, Cond.classLink RX3 161 "java/lang/IndexOutOfBoundsException", Cond.initialized "java/lang/IndexOutOfBoundsException", Cond.methodLink RX3 67 yX3_isKind, Cond.static yX3_isKind, Cond.code yX3_isKind cX3_isKind 1 (some .boolean), Cond.methodLink RX3 70 yX3_isValue, Cond.static yX3_isValue, Cond.code yX3_isValue cX3_isValue 1 (some .boolean), Cond.methodLink RX3 42 yX3_checkArgument, Cond.static yX3_checkArgument, Cond.code yX3_checkArgument cX3_checkArgument 1 none, Cond.classLink RX3 187 "java/lang/IllegalArgumentException", Cond.initialized "java/lang/IllegalArgumentException", Cond.methodLink RX3 125 yX1_groupOf, Cond.instanceMethod yX1_groupOf, Cond.selects RX1 yX1_groupOf yX1_groupOf, Cond.initialized RX1]
def wsX3_edit_r2 : List Cond := [Cond.code yX1_groupOf cX1_groupOf 2 (some .int), Cond.fieldLink RX1 15 "CardMerger$Links" "groups" "[I", Cond.methodLink RX3 148 yX0_mineOfAll, Cond.instanceMethod yX0_mineOfAll, Cond.selects RX0 yX0_mineOfAll yX0_mineOfAll, Cond.initialized RX0, Cond.code yX0_mineOfAll cX0_mineOfAll 5 (some .int), Cond.fieldLink RX0 26 "CardMerger$Cards" "count" "I", Cond.static yX3_has, Cond.code yX3_has cX3_has 2 (some .boolean), Cond.methodLink RX0 30 yX0_setOf, Cond.instanceMethod yX0_setOf, Cond.selects RX0 yX0_setOf yX0_setOf, Cond.code yX0_setOf cX0_setOf 4 (some .int), Cond.fieldLink RX0 20 "CardMerger$Cards" "sets" "[[I", Cond.methodLink RX3 81 yX3_has, Cond.methodLink RX3 151 yX3_takeOutOfMine, Cond.instanceMethod yX3_takeOutOfMine, Cond.selects RX3 yX3_takeOutOfMine yX3_takeOutOfMine, Cond.code yX3_takeOutOfMine cX3_takeOutOfMine 7 (some .int), Cond.methodLink RX3 73 yX0_setOf, Cond.methodLink RX3 77 yX0_putSet, Cond.instanceMethod yX0_putSet, Cond.selects RX0 yX0_putSet yX0_putSet]
def wsX3_edit_r3 : List Cond := [Cond.code yX0_putSet cX0_putSet 5 none, Cond.fieldLink RX0 23 "CardMerger$Cards" "mineChanges" "[I", Cond.methodLink RX3 145 yX0_preferredOf, Cond.instanceMethod yX0_preferredOf, Cond.selects RX0 yX0_preferredOf yX0_preferredOf, Cond.code yX0_preferredOf cX0_preferredOf 5 (some .int), Cond.methodLink RX0 62 yX0_isAhead, Cond.instanceMethod yX0_isAhead, Cond.selects RX0 yX0_isAhead yX0_isAhead, Cond.code yX0_isAhead cX0_isAhead 3 (some .boolean), Cond.fieldLink RX0 9 "CardMerger$Cards" "books" "[I"]
def wsX3_edit : List Cond := .code yX3_edit cX3_edit 6 (some .int) :: ((wsX3_edit_r1 ++ (wsX3_edit_r2 ++ wsX3_edit_r3)) ++ wsX30 ++ wsX00 ++ wsX10 ++ (vx_atS RX3 165 "java/lang/IndexOutOfBoundsException" ["java/lang/RuntimeException", "java/lang/Exception"]).filter goodWord ++ (vx_atS RX3 191 "java/lang/IllegalArgumentException" ["java/lang/RuntimeException", "java/lang/Exception"]).filter goodWord)
def wsX3_scoreOf_r1 : List Cond := [Cond.fieldLink RX3 19 "CardMerger" "links" "LCardMerger$Links;", Cond.fieldLink RX3 12 "CardMerger" "cards" "LCardMerger$Cards;", Cond.methodLink RX3 139 yX1_areTogether, Cond.instanceMethod yX1_areTogether, Cond.selects RX1 yX1_areTogether yX1_areTogether, Cond.initialized RX1, Cond.code yX1_areTogether cX1_areTogether 3 (some .boolean), Cond.fieldLink RX1 15 "CardMerger$Links" "groups" "[I", Cond.static yX3_has, Cond.initialized RX3, Cond.code yX3_has cX3_has 2 (some .boolean), Cond.methodLink RX3 192 yX0_countShared, Cond.instanceMethod yX0_countShared, Cond.selects RX0 yX0_countShared yX0_countShared, Cond.initialized RX0, Cond.code yX0_countShared cX0_countShared 4 (some .int), Cond.methodLink RX0 30 yX0_setOf, Cond.instanceMethod yX0_setOf, Cond.selects RX0 yX0_setOf yX0_setOf, Cond.code yX0_setOf cX0_setOf 4 (some .int), Cond.fieldLink RX0 20 "CardMerger$Cards" "sets" "[[I", Cond.methodLink RX0 57 yJ6_bitCount_0f7a4, Cond.static yJ6_bitCount_0f7a4, Cond.initialized RJ6]
def wsX3_scoreOf_r2 : List Cond := [Cond.code yJ6_bitCount_0f7a4 cJ6_bitCount_0f7a4 1 (some .int), Cond.constant RJ6 265 (1431655765), Cond.constant RJ6 266 (858993459), Cond.constant RJ6 267 (252645135), Cond.methodLink RX3 85 yX0_nameIn, Cond.instanceMethod yX0_nameIn, Cond.selects RX0 yX0_nameIn yX0_nameIn, Cond.code yX0_nameIn cX0_nameIn 3 (some .int), Cond.fieldLink RX0 17 "CardMerger$Cards" "names" "[[I"]
def wsX3_scoreOf : List Cond := .code yX3_scoreOf cX3_scoreOf 5 (some .int) :: ((wsX3_scoreOf_r1 ++ wsX3_scoreOf_r2) ++ wsX30 ++ wsX10 ++ wsX00)
def wsX3_score_r1 : List Cond := [Cond.methodLink RX3 113 yX3_checkTwoCards, Cond.instanceMethod yX3_checkTwoCards, Cond.selects RX3 yX3_checkTwoCards yX3_checkTwoCards, Cond.initialized RX3, Cond.code yX3_checkTwoCards cX3_checkTwoCards 3 none, Cond.methodLink RX3 61 yX3_checkCard, Cond.instanceMethod yX3_checkCard, Cond.selects RX3 yX3_checkCard yX3_checkCard, Cond.code yX3_checkCard cX3_checkCard 2 none, Cond.classLink RX3 161 "java/lang/IndexOutOfBoundsException", Cond.initialized "java/lang/IndexOutOfBoundsException", Cond.fieldLink RX3 12 "CardMerger" "cards" "LCardMerger$Cards;", Cond.methodLink RX3 42 yX3_checkArgument, Cond.static yX3_checkArgument, Cond.code yX3_checkArgument cX3_checkArgument 1 none, Cond.classLink RX3 187 "java/lang/IllegalArgumentException", Cond.initialized "java/lang/IllegalArgumentException", Cond.methodLink RX3 154 yX3_scoreOf, Cond.instanceMethod yX3_scoreOf, Cond.selects RX3 yX3_scoreOf yX3_scoreOf, Cond.code yX3_scoreOf cX3_scoreOf 5 (some .int), Cond.fieldLink RX3 19 "CardMerger" "links" "LCardMerger$Links;", Cond.methodLink RX3 139 yX1_areTogether, Cond.instanceMethod yX1_areTogether]
def wsX3_score_r2 : List Cond := [Cond.selects RX1 yX1_areTogether yX1_areTogether, Cond.initialized RX1, Cond.code yX1_areTogether cX1_areTogether 3 (some .boolean), Cond.fieldLink RX1 15 "CardMerger$Links" "groups" "[I", Cond.static yX3_has, Cond.code yX3_has cX3_has 2 (some .boolean), Cond.methodLink RX3 192 yX0_countShared, Cond.instanceMethod yX0_countShared, Cond.selects RX0 yX0_countShared yX0_countShared, Cond.initialized RX0, Cond.code yX0_countShared cX0_countShared 4 (some .int), Cond.methodLink RX0 30 yX0_setOf, Cond.instanceMethod yX0_setOf, Cond.selects RX0 yX0_setOf yX0_setOf, Cond.code yX0_setOf cX0_setOf 4 (some .int), Cond.fieldLink RX0 20 "CardMerger$Cards" "sets" "[[I", Cond.methodLink RX0 57 yJ6_bitCount_0f7a4, Cond.static yJ6_bitCount_0f7a4, Cond.initialized RJ6, Cond.code yJ6_bitCount_0f7a4 cJ6_bitCount_0f7a4 1 (some .int), Cond.constant RJ6 265 (1431655765), Cond.constant RJ6 266 (858993459), Cond.constant RJ6 267 (252645135), Cond.methodLink RX3 85 yX0_nameIn]
def wsX3_score_r3 : List Cond := [Cond.instanceMethod yX0_nameIn, Cond.selects RX0 yX0_nameIn yX0_nameIn, Cond.code yX0_nameIn cX0_nameIn 3 (some .int), Cond.fieldLink RX0 17 "CardMerger$Cards" "names" "[[I"]
def wsX3_score : List Cond := .code yX3_score cX3_score 3 (some .int) :: ((wsX3_score_r1 ++ (wsX3_score_r2 ++ wsX3_score_r3)) ++ wsX30 ++ wsX00 ++ wsX10 ++ (vx_atS RX3 165 "java/lang/IndexOutOfBoundsException" ["java/lang/RuntimeException", "java/lang/Exception"]).filter goodWord ++ (vx_atS RX3 191 "java/lang/IllegalArgumentException" ["java/lang/RuntimeException", "java/lang/Exception"]).filter goodWord)
def wsX3_suggestedScore_r1 : List Cond := [Cond.fieldLink RX3 26 "CardMerger" "refusals" "LCardMerger$Refusals;", Cond.fieldLink RX3 12 "CardMerger" "cards" "LCardMerger$Cards;", Cond.methodLink RX3 177 yX0_mineChangesOf, Cond.instanceMethod yX0_mineChangesOf, Cond.selects RX0 yX0_mineChangesOf yX0_mineChangesOf, Cond.initialized RX0, Cond.code yX0_mineChangesOf cX0_mineChangesOf 3 (some .int), Cond.fieldLink RX0 23 "CardMerger$Cards" "mineChanges" "[I", Cond.methodLink RX3 195 yX2_stands, Cond.instanceMethod yX2_stands, Cond.selects RX2 yX2_stands yX2_stands, Cond.initialized RX2, Cond.code yX2_stands cX2_stands 4 (some .boolean), Cond.fieldLink RX2 9 "CardMerger$Refusals" "forGood" "[I", Cond.fieldLink RX2 17 "CardMerger$Refusals" "changesThen" "[[I", Cond.static yX3_has, Cond.initialized RX3, Cond.code yX3_has cX3_has 2 (some .boolean), Cond.methodLink RX3 154 yX3_scoreOf, Cond.instanceMethod yX3_scoreOf, Cond.selects RX3 yX3_scoreOf yX3_scoreOf, Cond.code yX3_scoreOf cX3_scoreOf 5 (some .int), Cond.fieldLink RX3 19 "CardMerger" "links" "LCardMerger$Links;", Cond.methodLink RX3 139 yX1_areTogether]
def wsX3_suggestedScore_r2 : List Cond := [Cond.instanceMethod yX1_areTogether, Cond.selects RX1 yX1_areTogether yX1_areTogether, Cond.initialized RX1, Cond.code yX1_areTogether cX1_areTogether 3 (some .boolean), Cond.fieldLink RX1 15 "CardMerger$Links" "groups" "[I", Cond.methodLink RX3 192 yX0_countShared, Cond.instanceMethod yX0_countShared, Cond.selects RX0 yX0_countShared yX0_countShared, Cond.code yX0_countShared cX0_countShared 4 (some .int), Cond.methodLink RX0 30 yX0_setOf, Cond.instanceMethod yX0_setOf, Cond.selects RX0 yX0_setOf yX0_setOf, Cond.code yX0_setOf cX0_setOf 4 (some .int), Cond.fieldLink RX0 20 "CardMerger$Cards" "sets" "[[I", Cond.methodLink RX0 57 yJ6_bitCount_0f7a4, Cond.static yJ6_bitCount_0f7a4, Cond.initialized RJ6, Cond.code yJ6_bitCount_0f7a4 cJ6_bitCount_0f7a4 1 (some .int), Cond.constant RJ6 265 (1431655765), Cond.constant RJ6 266 (858993459), Cond.constant RJ6 267 (252645135), Cond.methodLink RX3 85 yX0_nameIn, Cond.instanceMethod yX0_nameIn, Cond.selects RX0 yX0_nameIn yX0_nameIn]
def wsX3_suggestedScore_r3 : List Cond := [Cond.code yX0_nameIn cX0_nameIn 3 (some .int), Cond.fieldLink RX0 17 "CardMerger$Cards" "names" "[[I"]
def wsX3_suggestedScore : List Cond := .code yX3_suggestedScore cX3_suggestedScore 3 (some .int) :: ((wsX3_suggestedScore_r1 ++ (wsX3_suggestedScore_r2 ++ wsX3_suggestedScore_r3)) ++ wsX30 ++ wsX00 ++ wsX20 ++ wsX10)
def wsX3_tallyPairs_r1 : List Cond := [Cond.fieldLink RX3 30 "CardMerger" "pairsOfScore" "[I", Cond.fieldLink RX3 12 "CardMerger" "cards" "LCardMerger$Cards;", Cond.methodLink RX3 169 yX3_suggestedScore, Cond.instanceMethod yX3_suggestedScore, Cond.selects RX3 yX3_suggestedScore yX3_suggestedScore, Cond.initialized RX3, Cond.code yX3_suggestedScore cX3_suggestedScore 3 (some .int), Cond.fieldLink RX3 26 "CardMerger" "refusals" "LCardMerger$Refusals;", Cond.methodLink RX3 177 yX0_mineChangesOf, Cond.instanceMethod yX0_mineChangesOf, Cond.selects RX0 yX0_mineChangesOf yX0_mineChangesOf, Cond.initialized RX0, Cond.code yX0_mineChangesOf cX0_mineChangesOf 3 (some .int), Cond.fieldLink RX0 23 "CardMerger$Cards" "mineChanges" "[I", Cond.methodLink RX3 195 yX2_stands, Cond.instanceMethod yX2_stands, Cond.selects RX2 yX2_stands yX2_stands, Cond.initialized RX2, Cond.code yX2_stands cX2_stands 4 (some .boolean), Cond.fieldLink RX2 9 "CardMerger$Refusals" "forGood" "[I", Cond.fieldLink RX2 17 "CardMerger$Refusals" "changesThen" "[[I", Cond.static yX3_has, Cond.code yX3_has cX3_has 2 (some .boolean), Cond.methodLink RX3 154 yX3_scoreOf]
def wsX3_tallyPairs_r2 : List Cond := [Cond.instanceMethod yX3_scoreOf, Cond.selects RX3 yX3_scoreOf yX3_scoreOf, Cond.code yX3_scoreOf cX3_scoreOf 5 (some .int), Cond.fieldLink RX3 19 "CardMerger" "links" "LCardMerger$Links;", Cond.methodLink RX3 139 yX1_areTogether, Cond.instanceMethod yX1_areTogether, Cond.selects RX1 yX1_areTogether yX1_areTogether, Cond.initialized RX1, Cond.code yX1_areTogether cX1_areTogether 3 (some .boolean), Cond.fieldLink RX1 15 "CardMerger$Links" "groups" "[I", Cond.methodLink RX3 192 yX0_countShared, Cond.instanceMethod yX0_countShared, Cond.selects RX0 yX0_countShared yX0_countShared, Cond.code yX0_countShared cX0_countShared 4 (some .int), Cond.methodLink RX0 30 yX0_setOf, Cond.instanceMethod yX0_setOf, Cond.selects RX0 yX0_setOf yX0_setOf, Cond.code yX0_setOf cX0_setOf 4 (some .int), Cond.fieldLink RX0 20 "CardMerger$Cards" "sets" "[[I", Cond.methodLink RX0 57 yJ6_bitCount_0f7a4, Cond.static yJ6_bitCount_0f7a4, Cond.initialized RJ6, Cond.code yJ6_bitCount_0f7a4 cJ6_bitCount_0f7a4 1 (some .int), Cond.constant RJ6 265 (1431655765)]
def wsX3_tallyPairs_r3 : List Cond := [Cond.constant RJ6 266 (858993459), Cond.constant RJ6 267 (252645135), Cond.methodLink RX3 85 yX0_nameIn, Cond.instanceMethod yX0_nameIn, Cond.selects RX0 yX0_nameIn yX0_nameIn, Cond.code yX0_nameIn cX0_nameIn 3 (some .int), Cond.fieldLink RX0 17 "CardMerger$Cards" "names" "[[I"]
def wsX3_tallyPairs : List Cond := .code yX3_tallyPairs cX3_tallyPairs 5 (some .int) :: ((wsX3_tallyPairs_r1 ++ (wsX3_tallyPairs_r2 ++ wsX3_tallyPairs_r3)) ++ wsX30 ++ wsX00 ++ wsX20 ++ wsX10)
def wsX3_pairs_r1 : List Cond := [Cond.methodLink RX3 157 yX3_tallyPairs, Cond.instanceMethod yX3_tallyPairs, Cond.selects RX3 yX3_tallyPairs yX3_tallyPairs, Cond.initialized RX3, Cond.code yX3_tallyPairs cX3_tallyPairs 5 (some .int), Cond.fieldLink RX3 30 "CardMerger" "pairsOfScore" "[I", Cond.fieldLink RX3 12 "CardMerger" "cards" "LCardMerger$Cards;", Cond.methodLink RX3 169 yX3_suggestedScore, Cond.instanceMethod yX3_suggestedScore, Cond.selects RX3 yX3_suggestedScore yX3_suggestedScore, Cond.code yX3_suggestedScore cX3_suggestedScore 3 (some .int), Cond.fieldLink RX3 26 "CardMerger" "refusals" "LCardMerger$Refusals;", Cond.methodLink RX3 177 yX0_mineChangesOf, Cond.instanceMethod yX0_mineChangesOf, Cond.selects RX0 yX0_mineChangesOf yX0_mineChangesOf, Cond.initialized RX0, Cond.code yX0_mineChangesOf cX0_mineChangesOf 3 (some .int), Cond.fieldLink RX0 23 "CardMerger$Cards" "mineChanges" "[I", Cond.methodLink RX3 195 yX2_stands, Cond.instanceMethod yX2_stands, Cond.selects RX2 yX2_stands yX2_stands, Cond.initialized RX2, Cond.code yX2_stands cX2_stands 4 (some .boolean), Cond.fieldLink RX2 9 "CardMerger$Refusals" "forGood" "[I"]
def wsX3_pairs_r2 : List Cond := [Cond.fieldLink RX2 17 "CardMerger$Refusals" "changesThen" "[[I", Cond.static yX3_has, Cond.code yX3_has cX3_has 2 (some .boolean), Cond.methodLink RX3 154 yX3_scoreOf, Cond.instanceMethod yX3_scoreOf, Cond.selects RX3 yX3_scoreOf yX3_scoreOf, Cond.code yX3_scoreOf cX3_scoreOf 5 (some .int), Cond.fieldLink RX3 19 "CardMerger" "links" "LCardMerger$Links;", Cond.methodLink RX3 139 yX1_areTogether, Cond.instanceMethod yX1_areTogether, Cond.selects RX1 yX1_areTogether yX1_areTogether, Cond.initialized RX1, Cond.code yX1_areTogether cX1_areTogether 3 (some .boolean), Cond.fieldLink RX1 15 "CardMerger$Links" "groups" "[I", Cond.methodLink RX3 192 yX0_countShared, Cond.instanceMethod yX0_countShared, Cond.selects RX0 yX0_countShared yX0_countShared, Cond.code yX0_countShared cX0_countShared 4 (some .int), Cond.methodLink RX0 30 yX0_setOf, Cond.instanceMethod yX0_setOf, Cond.selects RX0 yX0_setOf yX0_setOf, Cond.code yX0_setOf cX0_setOf 4 (some .int), Cond.fieldLink RX0 20 "CardMerger$Cards" "sets" "[[I", Cond.methodLink RX0 57 yJ6_bitCount_0f7a4]
def wsX3_pairs_r3 : List Cond := [Cond.static yJ6_bitCount_0f7a4, Cond.initialized RJ6, Cond.code yJ6_bitCount_0f7a4 cJ6_bitCount_0f7a4 1 (some .int), Cond.constant RJ6 265 (1431655765), Cond.constant RJ6 266 (858993459), Cond.constant RJ6 267 (252645135), Cond.methodLink RX3 85 yX0_nameIn, Cond.instanceMethod yX0_nameIn, Cond.selects RX0 yX0_nameIn yX0_nameIn, Cond.code yX0_nameIn cX0_nameIn 3 (some .int), Cond.fieldLink RX0 17 "CardMerger$Cards" "names" "[[I"]
def wsX3_pairs : List Cond := .code yX3_pairs cX3_pairs 1 (some .int) :: ((wsX3_pairs_r1 ++ (wsX3_pairs_r2 ++ wsX3_pairs_r3)) ++ wsX30 ++ wsX00 ++ wsX20 ++ wsX10)
def wsX3_pairOfScore_r1 : List Cond := [Cond.fieldLink RX3 12 "CardMerger" "cards" "LCardMerger$Cards;", Cond.methodLink RX3 169 yX3_suggestedScore, Cond.instanceMethod yX3_suggestedScore, Cond.selects RX3 yX3_suggestedScore yX3_suggestedScore, Cond.initialized RX3, Cond.code yX3_suggestedScore cX3_suggestedScore 3 (some .int), Cond.fieldLink RX3 26 "CardMerger" "refusals" "LCardMerger$Refusals;", Cond.methodLink RX3 177 yX0_mineChangesOf, Cond.instanceMethod yX0_mineChangesOf, Cond.selects RX0 yX0_mineChangesOf yX0_mineChangesOf, Cond.initialized RX0, Cond.code yX0_mineChangesOf cX0_mineChangesOf 3 (some .int), Cond.fieldLink RX0 23 "CardMerger$Cards" "mineChanges" "[I", Cond.methodLink RX3 195 yX2_stands, Cond.instanceMethod yX2_stands, Cond.selects RX2 yX2_stands yX2_stands, Cond.initialized RX2, Cond.code yX2_stands cX2_stands 4 (some .boolean), Cond.fieldLink RX2 9 "CardMerger$Refusals" "forGood" "[I", Cond.fieldLink RX2 17 "CardMerger$Refusals" "changesThen" "[[I", Cond.static yX3_has, Cond.code yX3_has cX3_has 2 (some .boolean), Cond.methodLink RX3 154 yX3_scoreOf, Cond.instanceMethod yX3_scoreOf]
def wsX3_pairOfScore_r2 : List Cond := [Cond.selects RX3 yX3_scoreOf yX3_scoreOf, Cond.code yX3_scoreOf cX3_scoreOf 5 (some .int), Cond.fieldLink RX3 19 "CardMerger" "links" "LCardMerger$Links;", Cond.methodLink RX3 139 yX1_areTogether, Cond.instanceMethod yX1_areTogether, Cond.selects RX1 yX1_areTogether yX1_areTogether, Cond.initialized RX1, Cond.code yX1_areTogether cX1_areTogether 3 (some .boolean), Cond.fieldLink RX1 15 "CardMerger$Links" "groups" "[I", Cond.methodLink RX3 192 yX0_countShared, Cond.instanceMethod yX0_countShared, Cond.selects RX0 yX0_countShared yX0_countShared, Cond.code yX0_countShared cX0_countShared 4 (some .int), Cond.methodLink RX0 30 yX0_setOf, Cond.instanceMethod yX0_setOf, Cond.selects RX0 yX0_setOf yX0_setOf, Cond.code yX0_setOf cX0_setOf 4 (some .int), Cond.fieldLink RX0 20 "CardMerger$Cards" "sets" "[[I", Cond.methodLink RX0 57 yJ6_bitCount_0f7a4, Cond.static yJ6_bitCount_0f7a4, Cond.initialized RJ6, Cond.code yJ6_bitCount_0f7a4 cJ6_bitCount_0f7a4 1 (some .int), Cond.constant RJ6 265 (1431655765), Cond.constant RJ6 266 (858993459)]
def wsX3_pairOfScore_r3 : List Cond := [Cond.constant RJ6 267 (252645135), Cond.methodLink RX3 85 yX0_nameIn, Cond.instanceMethod yX0_nameIn, Cond.selects RX0 yX0_nameIn yX0_nameIn, Cond.code yX0_nameIn cX0_nameIn 3 (some .int), Cond.fieldLink RX0 17 "CardMerger$Cards" "names" "[[I"]
def wsX3_pairOfScore : List Cond := .code yX3_pairOfScore cX3_pairOfScore 6 (some .int) :: ((wsX3_pairOfScore_r1 ++ (wsX3_pairOfScore_r2 ++ wsX3_pairOfScore_r3)) ++ wsX30 ++ wsX00 ++ wsX20 ++ wsX10)
def wsX3_pairAt_r1 : List Cond := [Cond.classLink RX3 161 "java/lang/IndexOutOfBoundsException", Cond.initialized "java/lang/IndexOutOfBoundsException", Cond.fieldLink RX3 30 "CardMerger" "pairsOfScore" "[I", Cond.methodLink RX3 157 yX3_tallyPairs, Cond.instanceMethod yX3_tallyPairs, Cond.selects RX3 yX3_tallyPairs yX3_tallyPairs, Cond.initialized RX3, Cond.code yX3_tallyPairs cX3_tallyPairs 5 (some .int), Cond.fieldLink RX3 12 "CardMerger" "cards" "LCardMerger$Cards;", Cond.methodLink RX3 169 yX3_suggestedScore, Cond.instanceMethod yX3_suggestedScore, Cond.selects RX3 yX3_suggestedScore yX3_suggestedScore, Cond.code yX3_suggestedScore cX3_suggestedScore 3 (some .int), Cond.fieldLink RX3 26 "CardMerger" "refusals" "LCardMerger$Refusals;", Cond.methodLink RX3 177 yX0_mineChangesOf, Cond.instanceMethod yX0_mineChangesOf, Cond.selects RX0 yX0_mineChangesOf yX0_mineChangesOf, Cond.initialized RX0, Cond.code yX0_mineChangesOf cX0_mineChangesOf 3 (some .int), Cond.fieldLink RX0 23 "CardMerger$Cards" "mineChanges" "[I", Cond.methodLink RX3 195 yX2_stands, Cond.instanceMethod yX2_stands, Cond.selects RX2 yX2_stands yX2_stands, Cond.initialized RX2]
def wsX3_pairAt_r2 : List Cond := [Cond.code yX2_stands cX2_stands 4 (some .boolean), Cond.fieldLink RX2 9 "CardMerger$Refusals" "forGood" "[I", Cond.fieldLink RX2 17 "CardMerger$Refusals" "changesThen" "[[I", Cond.static yX3_has, Cond.code yX3_has cX3_has 2 (some .boolean), Cond.methodLink RX3 154 yX3_scoreOf, Cond.instanceMethod yX3_scoreOf, Cond.selects RX3 yX3_scoreOf yX3_scoreOf, Cond.code yX3_scoreOf cX3_scoreOf 5 (some .int), Cond.fieldLink RX3 19 "CardMerger" "links" "LCardMerger$Links;", Cond.methodLink RX3 139 yX1_areTogether, Cond.instanceMethod yX1_areTogether, Cond.selects RX1 yX1_areTogether yX1_areTogether, Cond.initialized RX1, Cond.code yX1_areTogether cX1_areTogether 3 (some .boolean), Cond.fieldLink RX1 15 "CardMerger$Links" "groups" "[I", Cond.methodLink RX3 192 yX0_countShared, Cond.instanceMethod yX0_countShared, Cond.selects RX0 yX0_countShared yX0_countShared, Cond.code yX0_countShared cX0_countShared 4 (some .int), Cond.methodLink RX0 30 yX0_setOf, Cond.instanceMethod yX0_setOf, Cond.selects RX0 yX0_setOf yX0_setOf, Cond.code yX0_setOf cX0_setOf 4 (some .int)]
def wsX3_pairAt_r3 : List Cond := [Cond.fieldLink RX0 20 "CardMerger$Cards" "sets" "[[I", Cond.methodLink RX0 57 yJ6_bitCount_0f7a4, Cond.static yJ6_bitCount_0f7a4, Cond.initialized RJ6, Cond.code yJ6_bitCount_0f7a4 cJ6_bitCount_0f7a4 1 (some .int), Cond.constant RJ6 265 (1431655765), Cond.constant RJ6 266 (858993459), Cond.constant RJ6 267 (252645135), Cond.methodLink RX3 85 yX0_nameIn, Cond.instanceMethod yX0_nameIn, Cond.selects RX0 yX0_nameIn yX0_nameIn, Cond.code yX0_nameIn cX0_nameIn 3 (some .int), Cond.fieldLink RX0 17 "CardMerger$Cards" "names" "[[I", Cond.methodLink RX3 166 yX3_pairOfScore, Cond.instanceMethod yX3_pairOfScore, Cond.selects RX3 yX3_pairOfScore yX3_pairOfScore, Cond.code yX3_pairOfScore cX3_pairOfScore 6 (some .int)]
def wsX3_pairAt : List Cond := .code yX3_pairAt cX3_pairAt 5 (some .int) :: ((wsX3_pairAt_r1 ++ (wsX3_pairAt_r2 ++ wsX3_pairAt_r3)) ++ wsX30 ++ wsX00 ++ wsX20 ++ wsX10 ++ (vx_atS RX3 165 "java/lang/IndexOutOfBoundsException" ["java/lang/RuntimeException", "java/lang/Exception"]).filter goodWord)
def wsX3_turnDown_r1 : List Cond := [Cond.classLink RX3 50 "java/lang/IllegalStateException", Cond.initialized "java/lang/IllegalStateException", Cond.fieldLink RX3 26 "CardMerger" "refusals" "LCardMerger$Refusals;", Cond.fieldLink RX3 12 "CardMerger" "cards" "LCardMerger$Cards;", Cond.methodLink RX3 113 yX3_checkTwoCards, Cond.instanceMethod yX3_checkTwoCards, Cond.selects RX3 yX3_checkTwoCards yX3_checkTwoCards, Cond.initialized RX3, Cond.code yX3_checkTwoCards cX3_checkTwoCards 3 none, Cond.methodLink RX3 61 yX3_checkCard, Cond.instanceMethod yX3_checkCard, Cond.selects RX3 yX3_checkCard yX3_checkCard, Cond.code yX3_checkCard cX3_checkCard 2 none, Cond.classLink RX3 161 "java/lang/IndexOutOfBoundsException", Cond.initialized "java/lang/IndexOutOfBoundsException", Cond.methodLink RX3 42 yX3_checkArgument, Cond.static yX3_checkArgument, Cond.code yX3_checkArgument cX3_checkArgument 1 none, Cond.classLink RX3 187 "java/lang/IllegalArgumentException", Cond.initialized "java/lang/IllegalArgumentException", Cond.methodLink RX3 169 yX3_suggestedScore, Cond.instanceMethod yX3_suggestedScore, Cond.selects RX3 yX3_suggestedScore yX3_suggestedScore, Cond.code yX3_suggestedScore cX3_suggestedScore 3 (some .int)]
def wsX3_turnDown_r2 : List Cond := [Cond.methodLink RX3 177 yX0_mineChangesOf, Cond.instanceMethod yX0_mineChangesOf, Cond.selects RX0 yX0_mineChangesOf yX0_mineChangesOf, Cond.initialized RX0, Cond.code yX0_mineChangesOf cX0_mineChangesOf 3 (some .int), Cond.fieldLink RX0 23 "CardMerger$Cards" "mineChanges" "[I", Cond.methodLink RX3 195 yX2_stands, Cond.instanceMethod yX2_stands, Cond.selects RX2 yX2_stands yX2_stands, Cond.initialized RX2, Cond.code yX2_stands cX2_stands 4 (some .boolean), Cond.fieldLink RX2 9 "CardMerger$Refusals" "forGood" "[I", Cond.fieldLink RX2 17 "CardMerger$Refusals" "changesThen" "[[I", Cond.static yX3_has, Cond.code yX3_has cX3_has 2 (some .boolean), Cond.methodLink RX3 154 yX3_scoreOf, Cond.instanceMethod yX3_scoreOf, Cond.selects RX3 yX3_scoreOf yX3_scoreOf, Cond.code yX3_scoreOf cX3_scoreOf 5 (some .int), Cond.fieldLink RX3 19 "CardMerger" "links" "LCardMerger$Links;", Cond.methodLink RX3 139 yX1_areTogether, Cond.instanceMethod yX1_areTogether, Cond.selects RX1 yX1_areTogether yX1_areTogether, Cond.initialized RX1]
def wsX3_turnDown_r3 : List Cond := [Cond.code yX1_areTogether cX1_areTogether 3 (some .boolean), Cond.fieldLink RX1 15 "CardMerger$Links" "groups" "[I", Cond.methodLink RX3 192 yX0_countShared, Cond.instanceMethod yX0_countShared, Cond.selects RX0 yX0_countShared yX0_countShared, Cond.code yX0_countShared cX0_countShared 4 (some .int), Cond.methodLink RX0 30 yX0_setOf, Cond.instanceMethod yX0_setOf, Cond.selects RX0 yX0_setOf yX0_setOf, Cond.code yX0_setOf cX0_setOf 4 (some .int), Cond.fieldLink RX0 20 "CardMerger$Cards" "sets" "[[I", Cond.methodLink RX0 57 yJ6_bitCount_0f7a4, Cond.static yJ6_bitCount_0f7a4, Cond.initialized RJ6, Cond.code yJ6_bitCount_0f7a4 cJ6_bitCount_0f7a4 1 (some .int), Cond.constant RJ6 265 (1431655765), Cond.constant RJ6 266 (858993459), Cond.constant RJ6 267 (252645135), Cond.methodLink RX3 85 yX0_nameIn, Cond.instanceMethod yX0_nameIn, Cond.selects RX0 yX0_nameIn yX0_nameIn, Cond.code yX0_nameIn cX0_nameIn 3 (some .int), Cond.fieldLink RX0 17 "CardMerger$Cards" "names" "[[I", Cond.methodLink RX3 174 yX2_refuseForGood]
def wsX3_turnDown_r4 : List Cond := [Cond.instanceMethod yX2_refuseForGood, Cond.selects RX2 yX2_refuseForGood yX2_refuseForGood, Cond.code yX2_refuseForGood cX2_refuseForGood 3 none, Cond.methodLink RX3 180 yX2_refuseForNow, Cond.instanceMethod yX2_refuseForNow, Cond.selects RX2 yX2_refuseForNow yX2_refuseForNow, Cond.code yX2_refuseForNow cX2_refuseForNow 4 none, Cond.methodLink RX3 157 yX3_tallyPairs, Cond.instanceMethod yX3_tallyPairs, Cond.selects RX3 yX3_tallyPairs yX3_tallyPairs, Cond.code yX3_tallyPairs cX3_tallyPairs 5 (some .int), Cond.fieldLink RX3 30 "CardMerger" "pairsOfScore" "[I"]
def wsX3_turnDown : List Cond := .code yX3_turnDown cX3_turnDown 4 (some .int) :: ((wsX3_turnDown_r1 ++ (wsX3_turnDown_r2 ++ (wsX3_turnDown_r3 ++ wsX3_turnDown_r4))) ++ wsX30 ++ wsX00 ++ wsX20 ++ wsX10 ++ (vx_atS RX3 54 "java/lang/IllegalStateException" ["java/lang/RuntimeException", "java/lang/Exception"]).filter goodWord ++ (vx_atS RX3 165 "java/lang/IndexOutOfBoundsException" ["java/lang/RuntimeException", "java/lang/Exception"]).filter goodWord ++ (vx_atS RX3 191 "java/lang/IllegalArgumentException" ["java/lang/RuntimeException", "java/lang/Exception"]).filter goodWord)
def wsX4_init : List Cond := .code yX4_init cX4_init 1 none :: ([.methodLink RX4 1 objectInit, .instanceMethod objectInit, .code objectInit ⟨#[0xb1]⟩ 1 none, .arrayClass .int, .fieldLink RX4 7 "CardMergerModel" "book" "[I", .fieldLink RX4 13 "CardMergerModel" "name" "[I", .fieldLink RX4 16 "CardMergerModel" "set" "[I", .fieldLink RX4 19 "CardMergerModel" "links" "[I", .fieldLink RX4 22 "CardMergerModel" "good" "[I", .fieldLink RX4 25 "CardMergerModel" "forNow" "[I", .fieldLink RX4 28 "CardMergerModel" "scores" "[I"] ++ wsX40)
def wsX4_thrown : List Cond := .code yX4_thrown cX4_thrown 1 (some .int) :: ([.fieldLink RX4 31 "CardMergerModel" "thrown" "I"] ++ wsX40)
def wsX4_isFine : List Cond := .code yX4_isFine cX4_isFine 2 (some .boolean) :: ([.fieldLink RX4 31 "CardMergerModel" "thrown" "I"] ++ wsX40)
def wsX4_isIn : List Cond := .code yX4_isIn cX4_isIn 3 (some .boolean) :: ([])
def wsX4_isCard : List Cond := .code yX4_isCard cX4_isCard 2 (some .boolean) :: ([.fieldLink RX4 35 "CardMergerModel" "cards" "I", .methodLink RX4 38 yX4_isIn, .static yX4_isIn, .initialized RX4, .code yX4_isIn cX4_isIn 3 (some .boolean)] ++ wsX40)
def wsX4_isBook : List Cond := .code yX4_isBook cX4_isBook 1 (some .boolean) :: ([.methodLink RX4 38 yX4_isIn, .static yX4_isIn, .initialized RX4, .code yX4_isIn cX4_isIn 3 (some .boolean)])
def wsX4_isKind : List Cond := .code yX4_isKind cX4_isKind 1 (some .boolean) :: ([.methodLink RX4 38 yX4_isIn, .static yX4_isIn, .initialized RX4, .code yX4_isIn cX4_isIn 3 (some .boolean)])
def wsX4_at : List Cond := .code yX4_at cX4_at 3 (some .int) :: ([])
def wsX4_count : List Cond := .code yX4_count cX4_count 3 (some .int) :: ([])
def wsX4_has : List Cond := .code yX4_has cX4_has 2 (some .boolean) :: ([])
def wsX4_add : List Cond := .code yX4_add cX4_add 4 (some .int) :: ([.fieldLink RX4 35 "CardMergerModel" "cards" "I", .fieldLink RX4 7 "CardMergerModel" "book" "[I", .fieldLink RX4 13 "CardMergerModel" "name" "[I", .methodLink RX4 42 yX4_isBook, .static yX4_isBook, .initialized RX4, .code yX4_isBook cX4_isBook 1 (some .boolean), .methodLink RX4 38 yX4_isIn, .static yX4_isIn, .code yX4_isIn cX4_isIn 3 (some .boolean), .methodLink RX4 46 yX4_isFine, .instanceMethod yX4_isFine, .selects RX4 yX4_isFine yX4_isFine, .code yX4_isFine cX4_isFine 2 (some .boolean), .fieldLink RX4 31 "CardMergerModel" "thrown" "I"] ++ wsX40)
def wsX4_changes : List Cond := .code yX4_changes cX4_changes 3 none :: ([.fieldLink RX4 25 "CardMergerModel" "forNow" "[I", .fieldLink RX4 35 "CardMergerModel" "cards" "I"] ++ wsX40)
def wsX4_sets : List Cond := .code yX4_sets cX4_sets 5 none :: ([.fieldLink RX4 16 "CardMergerModel" "set" "[I", .methodLink RX4 49 yX4_at, .static yX4_at, .initialized RX4, .code yX4_at cX4_at 3 (some .int), .methodLink RX4 53 yX4_changes, .instanceMethod yX4_changes, .selects RX4 yX4_changes yX4_changes, .code yX4_changes cX4_changes 3 none, .fieldLink RX4 25 "CardMergerModel" "forNow" "[I", .fieldLink RX4 35 "CardMergerModel" "cards" "I"] ++ wsX40)
def wsX4_names : List Cond := .code yX4_names cX4_names 4 none :: ([.fieldLink RX4 13 "CardMergerModel" "name" "[I", .methodLink RX4 53 yX4_changes, .instanceMethod yX4_changes, .selects RX4 yX4_changes yX4_changes, .initialized RX4, .code yX4_changes cX4_changes 3 none, .fieldLink RX4 25 "CardMergerModel" "forNow" "[I", .fieldLink RX4 35 "CardMergerModel" "cards" "I"] ++ wsX40)
def wsX4_turn_r1 : List Cond := [Cond.fieldLink RX4 16 "CardMergerModel" "set" "[I", Cond.methodLink RX4 38 yX4_isIn, Cond.static yX4_isIn, Cond.initialized RX4, Cond.code yX4_isIn cX4_isIn 3 (some .boolean), Cond.methodLink RX4 57 yX4_isKind, Cond.static yX4_isKind, Cond.code yX4_isKind cX4_isKind 1 (some .boolean), Cond.methodLink RX4 60 yX4_isCard, Cond.instanceMethod yX4_isCard, Cond.selects RX4 yX4_isCard yX4_isCard, Cond.code yX4_isCard cX4_isCard 2 (some .boolean), Cond.fieldLink RX4 35 "CardMergerModel" "cards" "I", Cond.methodLink RX4 46 yX4_isFine, Cond.instanceMethod yX4_isFine, Cond.selects RX4 yX4_isFine yX4_isFine, Cond.code yX4_isFine cX4_isFine 2 (some .boolean), Cond.fieldLink RX4 31 "CardMergerModel" "thrown" "I", Cond.methodLink RX4 49 yX4_at, Cond.static yX4_at, Cond.code yX4_at cX4_at 3 (some .int), Cond.methodLink RX4 63 yX4_sets, Cond.instanceMethod yX4_sets, Cond.selects RX4 yX4_sets yX4_sets]
def wsX4_turn_r2 : List Cond := [Cond.code yX4_sets cX4_sets 5 none, Cond.methodLink RX4 53 yX4_changes, Cond.instanceMethod yX4_changes, Cond.selects RX4 yX4_changes yX4_changes, Cond.code yX4_changes cX4_changes 3 none, Cond.fieldLink RX4 25 "CardMergerModel" "forNow" "[I", Cond.methodLink RX4 67 yX4_has, Cond.static yX4_has, Cond.code yX4_has cX4_has 2 (some .boolean)]
def wsX4_turn : List Cond := .code yX4_turn cX4_turn 6 (some .boolean) :: ((wsX4_turn_r1 ++ wsX4_turn_r2) ++ wsX40)
def wsX4_rename : List Cond := .code yX4_rename cX4_rename 6 (some .int) :: ([.fieldLink RX4 13 "CardMergerModel" "name" "[I", .methodLink RX4 38 yX4_isIn, .static yX4_isIn, .initialized RX4, .code yX4_isIn cX4_isIn 3 (some .boolean), .methodLink RX4 60 yX4_isCard, .instanceMethod yX4_isCard, .selects RX4 yX4_isCard yX4_isCard, .code yX4_isCard cX4_isCard 2 (some .boolean), .fieldLink RX4 35 "CardMergerModel" "cards" "I", .methodLink RX4 46 yX4_isFine, .instanceMethod yX4_isFine, .selects RX4 yX4_isFine yX4_isFine, .code yX4_isFine cX4_isFine 2 (some .boolean), .fieldLink RX4 31 "CardMergerModel" "thrown" "I", .methodLink RX4 71 yX4_names, .instanceMethod yX4_names, .selects RX4 yX4_names yX4_names, .code yX4_names cX4_names 4 none, .methodLink RX4 53 yX4_changes, .instanceMethod yX4_changes, .selects RX4 yX4_changes yX4_changes, .code yX4_changes cX4_changes 3 none, .fieldLink RX4 25 "CardMergerModel" "forNow" "[I"] ++ wsX40)
def wsX4_mergedOf : List Cond := .code yX4_mergedOf cX4_mergedOf 5 (some .int) :: ([.fieldLink RX4 16 "CardMergerModel" "set" "[I", .methodLink RX4 49 yX4_at, .static yX4_at, .initialized RX4, .code yX4_at cX4_at 3 (some .int)] ++ wsX40)
def wsX4_mergedName : List Cond := .code yX4_mergedName cX4_mergedName 3 (some .int) :: ([.fieldLink RX4 13 "CardMergerModel" "name" "[I"] ++ wsX40)
def wsX4_clashes : List Cond := .code yX4_clashes cX4_clashes 5 (some .boolean) :: ([.fieldLink RX4 13 "CardMergerModel" "name" "[I"] ++ wsX40)
def wsX4_sync_r1 : List Cond := [Cond.fieldLink RX4 35 "CardMergerModel" "cards" "I", Cond.fieldLink RX4 7 "CardMergerModel" "book" "[I", Cond.methodLink RX4 42 yX4_isBook, Cond.static yX4_isBook, Cond.initialized RX4, Cond.code yX4_isBook cX4_isBook 1 (some .boolean), Cond.methodLink RX4 38 yX4_isIn, Cond.static yX4_isIn, Cond.code yX4_isIn cX4_isIn 3 (some .boolean), Cond.methodLink RX4 46 yX4_isFine, Cond.instanceMethod yX4_isFine, Cond.selects RX4 yX4_isFine yX4_isFine, Cond.code yX4_isFine cX4_isFine 2 (some .boolean), Cond.fieldLink RX4 31 "CardMergerModel" "thrown" "I", Cond.methodLink RX4 75 yX4_clashes, Cond.instanceMethod yX4_clashes, Cond.selects RX4 yX4_clashes yX4_clashes, Cond.code yX4_clashes cX4_clashes 5 (some .boolean), Cond.fieldLink RX4 13 "CardMergerModel" "name" "[I", Cond.methodLink RX4 78 yX4_mergedOf, Cond.instanceMethod yX4_mergedOf, Cond.selects RX4 yX4_mergedOf yX4_mergedOf, Cond.code yX4_mergedOf cX4_mergedOf 5 (some .int), Cond.fieldLink RX4 16 "CardMergerModel" "set" "[I"]
def wsX4_sync_r2 : List Cond := [Cond.methodLink RX4 49 yX4_at, Cond.static yX4_at, Cond.code yX4_at cX4_at 3 (some .int), Cond.methodLink RX4 82 yX4_mergedName, Cond.instanceMethod yX4_mergedName, Cond.selects RX4 yX4_mergedName yX4_mergedName, Cond.code yX4_mergedName cX4_mergedName 3 (some .int), Cond.methodLink RX4 63 yX4_sets, Cond.instanceMethod yX4_sets, Cond.selects RX4 yX4_sets yX4_sets, Cond.code yX4_sets cX4_sets 5 none, Cond.methodLink RX4 53 yX4_changes, Cond.instanceMethod yX4_changes, Cond.selects RX4 yX4_changes yX4_changes, Cond.code yX4_changes cX4_changes 3 none, Cond.fieldLink RX4 25 "CardMergerModel" "forNow" "[I", Cond.methodLink RX4 71 yX4_names, Cond.instanceMethod yX4_names, Cond.selects RX4 yX4_names yX4_names, Cond.code yX4_names cX4_names 4 none]
def wsX4_sync : List Cond := .code yX4_sync cX4_sync 8 (some .int) :: ((wsX4_sync_r1 ++ wsX4_sync_r2) ++ wsX40)
def wsX4_cards : List Cond := .code yX4_cards cX4_cards 1 (some .int) :: ([.fieldLink RX4 31 "CardMergerModel" "thrown" "I", .fieldLink RX4 35 "CardMergerModel" "cards" "I"] ++ wsX40)
def wsX4_values : List Cond := .code yX4_values cX4_values 5 (some .int) :: ([.fieldLink RX4 16 "CardMergerModel" "set" "[I", .methodLink RX4 38 yX4_isIn, .static yX4_isIn, .initialized RX4, .code yX4_isIn cX4_isIn 3 (some .boolean), .methodLink RX4 57 yX4_isKind, .static yX4_isKind, .code yX4_isKind cX4_isKind 1 (some .boolean), .methodLink RX4 60 yX4_isCard, .instanceMethod yX4_isCard, .selects RX4 yX4_isCard yX4_isCard, .code yX4_isCard cX4_isCard 2 (some .boolean), .fieldLink RX4 35 "CardMergerModel" "cards" "I", .methodLink RX4 46 yX4_isFine, .instanceMethod yX4_isFine, .selects RX4 yX4_isFine yX4_isFine, .code yX4_isFine cX4_isFine 2 (some .boolean), .fieldLink RX4 31 "CardMergerModel" "thrown" "I", .methodLink RX4 49 yX4_at, .static yX4_at, .code yX4_at cX4_at 3 (some .int)] ++ wsX40)
def wsX4_nameOf : List Cond := .code yX4_nameOf cX4_nameOf 3 (some .int) :: ([.fieldLink RX4 13 "CardMergerModel" "name" "[I", .methodLink RX4 60 yX4_isCard, .instanceMethod yX4_isCard, .selects RX4 yX4_isCard yX4_isCard, .initialized RX4, .code yX4_isCard cX4_isCard 2 (some .boolean), .fieldLink RX4 35 "CardMergerModel" "cards" "I", .methodLink RX4 38 yX4_isIn, .static yX4_isIn, .code yX4_isIn cX4_isIn 3 (some .boolean), .methodLink RX4 46 yX4_isFine, .instanceMethod yX4_isFine, .selects RX4 yX4_isFine yX4_isFine, .code yX4_isFine cX4_isFine 2 (some .boolean), .fieldLink RX4 31 "CardMergerModel" "thrown" "I"] ++ wsX40)
def wsX4_merged_r1 : List Cond := [Cond.methodLink RX4 60 yX4_isCard, Cond.instanceMethod yX4_isCard, Cond.selects RX4 yX4_isCard yX4_isCard, Cond.initialized RX4, Cond.code yX4_isCard cX4_isCard 2 (some .boolean), Cond.fieldLink RX4 35 "CardMergerModel" "cards" "I", Cond.methodLink RX4 38 yX4_isIn, Cond.static yX4_isIn, Cond.code yX4_isIn cX4_isIn 3 (some .boolean), Cond.methodLink RX4 57 yX4_isKind, Cond.static yX4_isKind, Cond.code yX4_isKind cX4_isKind 1 (some .boolean), Cond.methodLink RX4 46 yX4_isFine, Cond.instanceMethod yX4_isFine, Cond.selects RX4 yX4_isFine yX4_isFine, Cond.code yX4_isFine cX4_isFine 2 (some .boolean), Cond.fieldLink RX4 31 "CardMergerModel" "thrown" "I", Cond.methodLink RX4 78 yX4_mergedOf, Cond.instanceMethod yX4_mergedOf, Cond.selects RX4 yX4_mergedOf yX4_mergedOf, Cond.code yX4_mergedOf cX4_mergedOf 5 (some .int), Cond.fieldLink RX4 16 "CardMergerModel" "set" "[I", Cond.methodLink RX4 49 yX4_at, Cond.static yX4_at]
def wsX4_merged_r2 : List Cond := [Cond.code yX4_at cX4_at 3 (some .int)]
def wsX4_merged : List Cond := .code yX4_merged cX4_merged 3 (some .int) :: ((wsX4_merged_r1 ++ wsX4_merged_r2) ++ wsX40)
def wsX4_mergedByValues_r1 : List Cond := [Cond.methodLink RX4 60 yX4_isCard, Cond.instanceMethod yX4_isCard, Cond.selects RX4 yX4_isCard yX4_isCard, Cond.initialized RX4, Cond.code yX4_isCard cX4_isCard 2 (some .boolean), Cond.fieldLink RX4 35 "CardMergerModel" "cards" "I", Cond.methodLink RX4 38 yX4_isIn, Cond.static yX4_isIn, Cond.code yX4_isIn cX4_isIn 3 (some .boolean), Cond.methodLink RX4 57 yX4_isKind, Cond.static yX4_isKind, Cond.code yX4_isKind cX4_isKind 1 (some .boolean), Cond.methodLink RX4 46 yX4_isFine, Cond.instanceMethod yX4_isFine, Cond.selects RX4 yX4_isFine yX4_isFine, Cond.code yX4_isFine cX4_isFine 2 (some .boolean), Cond.fieldLink RX4 31 "CardMergerModel" "thrown" "I", Cond.methodLink RX4 78 yX4_mergedOf, Cond.instanceMethod yX4_mergedOf, Cond.selects RX4 yX4_mergedOf yX4_mergedOf, Cond.code yX4_mergedOf cX4_mergedOf 5 (some .int), Cond.fieldLink RX4 16 "CardMergerModel" "set" "[I", Cond.methodLink RX4 49 yX4_at, Cond.static yX4_at]
def wsX4_mergedByValues_r2 : List Cond := [Cond.code yX4_at cX4_at 3 (some .int)]
def wsX4_mergedByValues : List Cond := .code yX4_mergedByValues cX4_mergedByValues 3 (some .int) :: ((wsX4_mergedByValues_r1 ++ wsX4_mergedByValues_r2) ++ wsX40)
def wsX4_unsynced_r1 : List Cond := [Cond.fieldLink RX4 35 "CardMergerModel" "cards" "I", Cond.fieldLink RX4 13 "CardMergerModel" "name" "[I", Cond.fieldLink RX4 16 "CardMergerModel" "set" "[I", Cond.fieldLink RX4 7 "CardMergerModel" "book" "[I", Cond.methodLink RX4 42 yX4_isBook, Cond.static yX4_isBook, Cond.initialized RX4, Cond.code yX4_isBook cX4_isBook 1 (some .boolean), Cond.methodLink RX4 38 yX4_isIn, Cond.static yX4_isIn, Cond.code yX4_isIn cX4_isIn 3 (some .boolean), Cond.methodLink RX4 46 yX4_isFine, Cond.instanceMethod yX4_isFine, Cond.selects RX4 yX4_isFine yX4_isFine, Cond.code yX4_isFine cX4_isFine 2 (some .boolean), Cond.fieldLink RX4 31 "CardMergerModel" "thrown" "I", Cond.methodLink RX4 82 yX4_mergedName, Cond.instanceMethod yX4_mergedName, Cond.selects RX4 yX4_mergedName yX4_mergedName, Cond.code yX4_mergedName cX4_mergedName 3 (some .int), Cond.methodLink RX4 49 yX4_at, Cond.static yX4_at, Cond.code yX4_at cX4_at 3 (some .int), Cond.methodLink RX4 78 yX4_mergedOf]
def wsX4_unsynced_r2 : List Cond := [Cond.instanceMethod yX4_mergedOf, Cond.selects RX4 yX4_mergedOf yX4_mergedOf, Cond.code yX4_mergedOf cX4_mergedOf 5 (some .int)]
def wsX4_unsynced : List Cond := .code yX4_unsynced cX4_unsynced 6 (some .int) :: ((wsX4_unsynced_r1 ++ wsX4_unsynced_r2) ++ wsX40)
def wsX4_groupOf : List Cond := .code yX4_groupOf cX4_groupOf 5 (some .int) :: ([.fieldLink RX4 35 "CardMergerModel" "cards" "I", .fieldLink RX4 19 "CardMergerModel" "links" "[I", .methodLink RX4 67 yX4_has, .static yX4_has, .initialized RX4, .code yX4_has cX4_has 2 (some .boolean)] ++ wsX40)
def wsX4_link_r1 : List Cond := [Cond.fieldLink RX4 19 "CardMergerModel" "links" "[I", Cond.methodLink RX4 60 yX4_isCard, Cond.instanceMethod yX4_isCard, Cond.selects RX4 yX4_isCard yX4_isCard, Cond.initialized RX4, Cond.code yX4_isCard cX4_isCard 2 (some .boolean), Cond.fieldLink RX4 35 "CardMergerModel" "cards" "I", Cond.methodLink RX4 38 yX4_isIn, Cond.static yX4_isIn, Cond.code yX4_isIn cX4_isIn 3 (some .boolean), Cond.methodLink RX4 67 yX4_has, Cond.static yX4_has, Cond.code yX4_has cX4_has 2 (some .boolean), Cond.methodLink RX4 46 yX4_isFine, Cond.instanceMethod yX4_isFine, Cond.selects RX4 yX4_isFine yX4_isFine, Cond.code yX4_isFine cX4_isFine 2 (some .boolean), Cond.fieldLink RX4 31 "CardMergerModel" "thrown" "I", Cond.methodLink RX4 86 yX4_groupOf, Cond.instanceMethod yX4_groupOf, Cond.selects RX4 yX4_groupOf yX4_groupOf, Cond.code yX4_groupOf cX4_groupOf 5 (some .int), Cond.methodLink RX4 89 yX4_count, Cond.static yX4_count]
def wsX4_link_r2 : List Cond := [Cond.code yX4_count cX4_count 3 (some .int)]
def wsX4_link : List Cond := .code yX4_link cX4_link 4 (some .int) :: ((wsX4_link_r1 ++ wsX4_link_r2) ++ wsX40)
def wsX4_cut : List Cond := .code yX4_cut cX4_cut 4 (some .boolean) :: ([.fieldLink RX4 19 "CardMergerModel" "links" "[I", .methodLink RX4 60 yX4_isCard, .instanceMethod yX4_isCard, .selects RX4 yX4_isCard yX4_isCard, .initialized RX4, .code yX4_isCard cX4_isCard 2 (some .boolean), .fieldLink RX4 35 "CardMergerModel" "cards" "I", .methodLink RX4 38 yX4_isIn, .static yX4_isIn, .code yX4_isIn cX4_isIn 3 (some .boolean), .methodLink RX4 67 yX4_has, .static yX4_has, .code yX4_has cX4_has 2 (some .boolean), .methodLink RX4 46 yX4_isFine, .instanceMethod yX4_isFine, .selects RX4 yX4_isFine yX4_isFine, .code yX4_isFine cX4_isFine 2 (some .boolean), .fieldLink RX4 31 "CardMergerModel" "thrown" "I", .methodLink RX4 86 yX4_groupOf, .instanceMethod yX4_groupOf, .selects RX4 yX4_groupOf yX4_groupOf, .code yX4_groupOf cX4_groupOf 5 (some .int)] ++ wsX40)
def wsX4_group : List Cond := .code yX4_group cX4_group 2 (some .int) :: ([.methodLink RX4 60 yX4_isCard, .instanceMethod yX4_isCard, .selects RX4 yX4_isCard yX4_isCard, .initialized RX4, .code yX4_isCard cX4_isCard 2 (some .boolean), .fieldLink RX4 35 "CardMergerModel" "cards" "I", .methodLink RX4 38 yX4_isIn, .static yX4_isIn, .code yX4_isIn cX4_isIn 3 (some .boolean), .methodLink RX4 46 yX4_isFine, .instanceMethod yX4_isFine, .selects RX4 yX4_isFine yX4_isFine, .code yX4_isFine cX4_isFine 2 (some .boolean), .fieldLink RX4 31 "CardMergerModel" "thrown" "I", .methodLink RX4 86 yX4_groupOf, .instanceMethod yX4_groupOf, .selects RX4 yX4_groupOf yX4_groupOf, .code yX4_groupOf cX4_groupOf 5 (some .int), .fieldLink RX4 19 "CardMergerModel" "links" "[I", .methodLink RX4 67 yX4_has, .static yX4_has, .code yX4_has cX4_has 2 (some .boolean)] ++ wsX40)
def wsX4_groups : List Cond := .code yX4_groups cX4_groups 3 (some .int) :: ([.fieldLink RX4 31 "CardMergerModel" "thrown" "I", .fieldLink RX4 35 "CardMergerModel" "cards" "I", .methodLink RX4 86 yX4_groupOf, .instanceMethod yX4_groupOf, .selects RX4 yX4_groupOf yX4_groupOf, .initialized RX4, .code yX4_groupOf cX4_groupOf 5 (some .int), .fieldLink RX4 19 "CardMergerModel" "links" "[I", .methodLink RX4 67 yX4_has, .static yX4_has, .code yX4_has cX4_has 2 (some .boolean)] ++ wsX40)
def wsX4_preferredOf : List Cond := .code yX4_preferredOf cX4_preferredOf 6 (some .int) :: ([.fieldLink RX4 35 "CardMergerModel" "cards" "I", .fieldLink RX4 7 "CardMergerModel" "book" "[I", .methodLink RX4 86 yX4_groupOf, .instanceMethod yX4_groupOf, .selects RX4 yX4_groupOf yX4_groupOf, .initialized RX4, .code yX4_groupOf cX4_groupOf 5 (some .int), .fieldLink RX4 19 "CardMergerModel" "links" "[I", .methodLink RX4 67 yX4_has, .static yX4_has, .code yX4_has cX4_has 2 (some .boolean)] ++ wsX40)
def wsX4_preferred_r1 : List Cond := [Cond.methodLink RX4 60 yX4_isCard, Cond.instanceMethod yX4_isCard, Cond.selects RX4 yX4_isCard yX4_isCard, Cond.initialized RX4, Cond.code yX4_isCard cX4_isCard 2 (some .boolean), Cond.fieldLink RX4 35 "CardMergerModel" "cards" "I", Cond.methodLink RX4 38 yX4_isIn, Cond.static yX4_isIn, Cond.code yX4_isIn cX4_isIn 3 (some .boolean), Cond.methodLink RX4 46 yX4_isFine, Cond.instanceMethod yX4_isFine, Cond.selects RX4 yX4_isFine yX4_isFine, Cond.code yX4_isFine cX4_isFine 2 (some .boolean), Cond.fieldLink RX4 31 "CardMergerModel" "thrown" "I", Cond.methodLink RX4 92 yX4_preferredOf, Cond.instanceMethod yX4_preferredOf, Cond.selects RX4 yX4_preferredOf yX4_preferredOf, Cond.code yX4_preferredOf cX4_preferredOf 6 (some .int), Cond.fieldLink RX4 7 "CardMergerModel" "book" "[I", Cond.methodLink RX4 86 yX4_groupOf, Cond.instanceMethod yX4_groupOf, Cond.selects RX4 yX4_groupOf yX4_groupOf, Cond.code yX4_groupOf cX4_groupOf 5 (some .int), Cond.fieldLink RX4 19 "CardMergerModel" "links" "[I"]
def wsX4_preferred_r2 : List Cond := [Cond.methodLink RX4 67 yX4_has, Cond.static yX4_has, Cond.code yX4_has cX4_has 2 (some .boolean)]
def wsX4_preferred : List Cond := .code yX4_preferred cX4_preferred 2 (some .int) :: ((wsX4_preferred_r1 ++ wsX4_preferred_r2) ++ wsX40)
def wsX4_shownOf : List Cond := .code yX4_shownOf cX4_shownOf 6 (some .int) :: ([.fieldLink RX4 35 "CardMergerModel" "cards" "I", .fieldLink RX4 16 "CardMergerModel" "set" "[I", .methodLink RX4 86 yX4_groupOf, .instanceMethod yX4_groupOf, .selects RX4 yX4_groupOf yX4_groupOf, .initialized RX4, .code yX4_groupOf cX4_groupOf 5 (some .int), .fieldLink RX4 19 "CardMergerModel" "links" "[I", .methodLink RX4 67 yX4_has, .static yX4_has, .code yX4_has cX4_has 2 (some .boolean), .methodLink RX4 49 yX4_at, .static yX4_at, .code yX4_at cX4_at 3 (some .int)] ++ wsX40)
def wsX4_shown_r1 : List Cond := [Cond.methodLink RX4 60 yX4_isCard, Cond.instanceMethod yX4_isCard, Cond.selects RX4 yX4_isCard yX4_isCard, Cond.initialized RX4, Cond.code yX4_isCard cX4_isCard 2 (some .boolean), Cond.fieldLink RX4 35 "CardMergerModel" "cards" "I", Cond.methodLink RX4 38 yX4_isIn, Cond.static yX4_isIn, Cond.code yX4_isIn cX4_isIn 3 (some .boolean), Cond.methodLink RX4 57 yX4_isKind, Cond.static yX4_isKind, Cond.code yX4_isKind cX4_isKind 1 (some .boolean), Cond.methodLink RX4 46 yX4_isFine, Cond.instanceMethod yX4_isFine, Cond.selects RX4 yX4_isFine yX4_isFine, Cond.code yX4_isFine cX4_isFine 2 (some .boolean), Cond.fieldLink RX4 31 "CardMergerModel" "thrown" "I", Cond.methodLink RX4 95 yX4_shownOf, Cond.instanceMethod yX4_shownOf, Cond.selects RX4 yX4_shownOf yX4_shownOf, Cond.code yX4_shownOf cX4_shownOf 6 (some .int), Cond.fieldLink RX4 16 "CardMergerModel" "set" "[I", Cond.methodLink RX4 86 yX4_groupOf, Cond.instanceMethod yX4_groupOf]
def wsX4_shown_r2 : List Cond := [Cond.selects RX4 yX4_groupOf yX4_groupOf, Cond.code yX4_groupOf cX4_groupOf 5 (some .int), Cond.fieldLink RX4 19 "CardMergerModel" "links" "[I", Cond.methodLink RX4 67 yX4_has, Cond.static yX4_has, Cond.code yX4_has cX4_has 2 (some .boolean), Cond.methodLink RX4 49 yX4_at, Cond.static yX4_at, Cond.code yX4_at cX4_at 3 (some .int)]
def wsX4_shown : List Cond := .code yX4_shown cX4_shown 3 (some .int) :: ((wsX4_shown_r1 ++ wsX4_shown_r2) ++ wsX40)
def wsX4_edit_r1 : List Cond := [Cond.fieldLink RX4 16 "CardMergerModel" "set" "[I", Cond.fieldLink RX4 35 "CardMergerModel" "cards" "I", Cond.methodLink RX4 57 yX4_isKind, Cond.static yX4_isKind, Cond.initialized RX4, Cond.code yX4_isKind cX4_isKind 1 (some .boolean), Cond.methodLink RX4 38 yX4_isIn, Cond.static yX4_isIn, Cond.code yX4_isIn cX4_isIn 3 (some .boolean), Cond.methodLink RX4 60 yX4_isCard, Cond.instanceMethod yX4_isCard, Cond.selects RX4 yX4_isCard yX4_isCard, Cond.code yX4_isCard cX4_isCard 2 (some .boolean), Cond.methodLink RX4 46 yX4_isFine, Cond.instanceMethod yX4_isFine, Cond.selects RX4 yX4_isFine yX4_isFine, Cond.code yX4_isFine cX4_isFine 2 (some .boolean), Cond.fieldLink RX4 31 "CardMergerModel" "thrown" "I", Cond.methodLink RX4 95 yX4_shownOf, Cond.instanceMethod yX4_shownOf, Cond.selects RX4 yX4_shownOf yX4_shownOf, Cond.code yX4_shownOf cX4_shownOf 6 (some .int), Cond.methodLink RX4 86 yX4_groupOf, Cond.instanceMethod yX4_groupOf]
def wsX4_edit_r2 : List Cond := [Cond.selects RX4 yX4_groupOf yX4_groupOf, Cond.code yX4_groupOf cX4_groupOf 5 (some .int), Cond.fieldLink RX4 19 "CardMergerModel" "links" "[I", Cond.methodLink RX4 67 yX4_has, Cond.static yX4_has, Cond.code yX4_has cX4_has 2 (some .boolean), Cond.methodLink RX4 49 yX4_at, Cond.static yX4_at, Cond.code yX4_at cX4_at 3 (some .int), Cond.methodLink RX4 92 yX4_preferredOf, Cond.instanceMethod yX4_preferredOf, Cond.selects RX4 yX4_preferredOf yX4_preferredOf, Cond.code yX4_preferredOf cX4_preferredOf 6 (some .int), Cond.fieldLink RX4 7 "CardMergerModel" "book" "[I", Cond.methodLink RX4 63 yX4_sets, Cond.instanceMethod yX4_sets, Cond.selects RX4 yX4_sets yX4_sets, Cond.code yX4_sets cX4_sets 5 none, Cond.methodLink RX4 53 yX4_changes, Cond.instanceMethod yX4_changes, Cond.selects RX4 yX4_changes yX4_changes, Cond.code yX4_changes cX4_changes 3 none, Cond.fieldLink RX4 25 "CardMergerModel" "forNow" "[I"]
def wsX4_edit : List Cond := .code yX4_edit cX4_edit 8 (some .int) :: ((wsX4_edit_r1 ++ wsX4_edit_r2) ++ wsX40)
def wsX4_alike : List Cond := .code yX4_alike cX4_alike 5 (some .int) :: ([.fieldLink RX4 16 "CardMergerModel" "set" "[I", .fieldLink RX4 13 "CardMergerModel" "name" "[I", .methodLink RX4 49 yX4_at, .static yX4_at, .initialized RX4, .code yX4_at cX4_at 3 (some .int), .methodLink RX4 89 yX4_count, .static yX4_count, .code yX4_count cX4_count 3 (some .int)] ++ wsX40)
def wsX4_scoreOf : List Cond := .code yX4_scoreOf cX4_scoreOf 3 (some .int) :: ([.methodLink RX4 86 yX4_groupOf, .instanceMethod yX4_groupOf, .selects RX4 yX4_groupOf yX4_groupOf, .initialized RX4, .code yX4_groupOf cX4_groupOf 5 (some .int), .fieldLink RX4 35 "CardMergerModel" "cards" "I", .fieldLink RX4 19 "CardMergerModel" "links" "[I", .methodLink RX4 67 yX4_has, .static yX4_has, .code yX4_has cX4_has 2 (some .boolean), .methodLink RX4 98 yX4_alike, .instanceMethod yX4_alike, .selects RX4 yX4_alike yX4_alike, .code yX4_alike cX4_alike 5 (some .int), .fieldLink RX4 16 "CardMergerModel" "set" "[I", .fieldLink RX4 13 "CardMergerModel" "name" "[I", .methodLink RX4 49 yX4_at, .static yX4_at, .code yX4_at cX4_at 3 (some .int), .methodLink RX4 89 yX4_count, .static yX4_count, .code yX4_count cX4_count 3 (some .int)] ++ wsX40)
def wsX4_isSuggested_r1 : List Cond := [Cond.fieldLink RX4 22 "CardMergerModel" "good" "[I", Cond.fieldLink RX4 25 "CardMergerModel" "forNow" "[I", Cond.methodLink RX4 67 yX4_has, Cond.static yX4_has, Cond.initialized RX4, Cond.code yX4_has cX4_has 2 (some .boolean), Cond.methodLink RX4 101 yX4_scoreOf, Cond.instanceMethod yX4_scoreOf, Cond.selects RX4 yX4_scoreOf yX4_scoreOf, Cond.code yX4_scoreOf cX4_scoreOf 3 (some .int), Cond.methodLink RX4 86 yX4_groupOf, Cond.instanceMethod yX4_groupOf, Cond.selects RX4 yX4_groupOf yX4_groupOf, Cond.code yX4_groupOf cX4_groupOf 5 (some .int), Cond.fieldLink RX4 35 "CardMergerModel" "cards" "I", Cond.fieldLink RX4 19 "CardMergerModel" "links" "[I", Cond.methodLink RX4 98 yX4_alike, Cond.instanceMethod yX4_alike, Cond.selects RX4 yX4_alike yX4_alike, Cond.code yX4_alike cX4_alike 5 (some .int), Cond.fieldLink RX4 16 "CardMergerModel" "set" "[I", Cond.fieldLink RX4 13 "CardMergerModel" "name" "[I", Cond.methodLink RX4 49 yX4_at, Cond.static yX4_at]
def wsX4_isSuggested_r2 : List Cond := [Cond.code yX4_at cX4_at 3 (some .int), Cond.methodLink RX4 89 yX4_count, Cond.static yX4_count, Cond.code yX4_count cX4_count 3 (some .int)]
def wsX4_isSuggested : List Cond := .code yX4_isSuggested cX4_isSuggested 3 (some .boolean) :: ((wsX4_isSuggested_r1 ++ wsX4_isSuggested_r2) ++ wsX40)
def wsX4_score_r1 : List Cond := [Cond.methodLink RX4 60 yX4_isCard, Cond.instanceMethod yX4_isCard, Cond.selects RX4 yX4_isCard yX4_isCard, Cond.initialized RX4, Cond.code yX4_isCard cX4_isCard 2 (some .boolean), Cond.fieldLink RX4 35 "CardMergerModel" "cards" "I", Cond.methodLink RX4 38 yX4_isIn, Cond.static yX4_isIn, Cond.code yX4_isIn cX4_isIn 3 (some .boolean), Cond.methodLink RX4 46 yX4_isFine, Cond.instanceMethod yX4_isFine, Cond.selects RX4 yX4_isFine yX4_isFine, Cond.code yX4_isFine cX4_isFine 2 (some .boolean), Cond.fieldLink RX4 31 "CardMergerModel" "thrown" "I", Cond.methodLink RX4 101 yX4_scoreOf, Cond.instanceMethod yX4_scoreOf, Cond.selects RX4 yX4_scoreOf yX4_scoreOf, Cond.code yX4_scoreOf cX4_scoreOf 3 (some .int), Cond.methodLink RX4 86 yX4_groupOf, Cond.instanceMethod yX4_groupOf, Cond.selects RX4 yX4_groupOf yX4_groupOf, Cond.code yX4_groupOf cX4_groupOf 5 (some .int), Cond.fieldLink RX4 19 "CardMergerModel" "links" "[I", Cond.methodLink RX4 67 yX4_has]
def wsX4_score_r2 : List Cond := [Cond.static yX4_has, Cond.code yX4_has cX4_has 2 (some .boolean), Cond.methodLink RX4 98 yX4_alike, Cond.instanceMethod yX4_alike, Cond.selects RX4 yX4_alike yX4_alike, Cond.code yX4_alike cX4_alike 5 (some .int), Cond.fieldLink RX4 16 "CardMergerModel" "set" "[I", Cond.fieldLink RX4 13 "CardMergerModel" "name" "[I", Cond.methodLink RX4 49 yX4_at, Cond.static yX4_at, Cond.code yX4_at cX4_at 3 (some .int), Cond.methodLink RX4 89 yX4_count, Cond.static yX4_count, Cond.code yX4_count cX4_count 3 (some .int)]
def wsX4_score : List Cond := .code yX4_score cX4_score 4 (some .int) :: ((wsX4_score_r1 ++ wsX4_score_r2) ++ wsX40)
def wsX4_finds_r1 : List Cond := [Cond.fieldLink RX4 35 "CardMergerModel" "cards" "I", Cond.fieldLink RX4 22 "CardMergerModel" "good" "[I", Cond.fieldLink RX4 25 "CardMergerModel" "forNow" "[I", Cond.fieldLink RX4 28 "CardMergerModel" "scores" "[I", Cond.methodLink RX4 86 yX4_groupOf, Cond.instanceMethod yX4_groupOf, Cond.selects RX4 yX4_groupOf yX4_groupOf, Cond.initialized RX4, Cond.code yX4_groupOf cX4_groupOf 5 (some .int), Cond.fieldLink RX4 19 "CardMergerModel" "links" "[I", Cond.methodLink RX4 67 yX4_has, Cond.static yX4_has, Cond.code yX4_has cX4_has 2 (some .boolean), Cond.methodLink RX4 98 yX4_alike, Cond.instanceMethod yX4_alike, Cond.selects RX4 yX4_alike yX4_alike, Cond.code yX4_alike cX4_alike 5 (some .int), Cond.fieldLink RX4 16 "CardMergerModel" "set" "[I", Cond.fieldLink RX4 13 "CardMergerModel" "name" "[I", Cond.methodLink RX4 49 yX4_at, Cond.static yX4_at, Cond.code yX4_at cX4_at 3 (some .int), Cond.methodLink RX4 89 yX4_count, Cond.static yX4_count]
def wsX4_finds_r2 : List Cond := [Cond.code yX4_count cX4_count 3 (some .int)]
def wsX4_finds : List Cond := .code yX4_finds cX4_finds 6 (some .int) :: ((wsX4_finds_r1 ++ wsX4_finds_r2) ++ wsX40)
def wsX4_pairs_r1 : List Cond := [Cond.fieldLink RX4 31 "CardMergerModel" "thrown" "I", Cond.methodLink RX4 104 yX4_finds, Cond.instanceMethod yX4_finds, Cond.selects RX4 yX4_finds yX4_finds, Cond.initialized RX4, Cond.code yX4_finds cX4_finds 6 (some .int), Cond.fieldLink RX4 35 "CardMergerModel" "cards" "I", Cond.fieldLink RX4 22 "CardMergerModel" "good" "[I", Cond.fieldLink RX4 25 "CardMergerModel" "forNow" "[I", Cond.fieldLink RX4 28 "CardMergerModel" "scores" "[I", Cond.methodLink RX4 86 yX4_groupOf, Cond.instanceMethod yX4_groupOf, Cond.selects RX4 yX4_groupOf yX4_groupOf, Cond.code yX4_groupOf cX4_groupOf 5 (some .int), Cond.fieldLink RX4 19 "CardMergerModel" "links" "[I", Cond.methodLink RX4 67 yX4_has, Cond.static yX4_has, Cond.code yX4_has cX4_has 2 (some .boolean), Cond.methodLink RX4 98 yX4_alike, Cond.instanceMethod yX4_alike, Cond.selects RX4 yX4_alike yX4_alike, Cond.code yX4_alike cX4_alike 5 (some .int), Cond.fieldLink RX4 16 "CardMergerModel" "set" "[I", Cond.fieldLink RX4 13 "CardMergerModel" "name" "[I"]
def wsX4_pairs_r2 : List Cond := [Cond.methodLink RX4 49 yX4_at, Cond.static yX4_at, Cond.code yX4_at cX4_at 3 (some .int), Cond.methodLink RX4 89 yX4_count, Cond.static yX4_count, Cond.code yX4_count cX4_count 3 (some .int)]
def wsX4_pairs : List Cond := .code yX4_pairs cX4_pairs 1 (some .int) :: ((wsX4_pairs_r1 ++ wsX4_pairs_r2) ++ wsX40)
def wsX4_pairAt_r1 : List Cond := [Cond.fieldLink RX4 35 "CardMergerModel" "cards" "I", Cond.fieldLink RX4 28 "CardMergerModel" "scores" "[I", Cond.methodLink RX4 104 yX4_finds, Cond.instanceMethod yX4_finds, Cond.selects RX4 yX4_finds yX4_finds, Cond.initialized RX4, Cond.code yX4_finds cX4_finds 6 (some .int), Cond.fieldLink RX4 22 "CardMergerModel" "good" "[I", Cond.fieldLink RX4 25 "CardMergerModel" "forNow" "[I", Cond.methodLink RX4 86 yX4_groupOf, Cond.instanceMethod yX4_groupOf, Cond.selects RX4 yX4_groupOf yX4_groupOf, Cond.code yX4_groupOf cX4_groupOf 5 (some .int), Cond.fieldLink RX4 19 "CardMergerModel" "links" "[I", Cond.methodLink RX4 67 yX4_has, Cond.static yX4_has, Cond.code yX4_has cX4_has 2 (some .boolean), Cond.methodLink RX4 98 yX4_alike, Cond.instanceMethod yX4_alike, Cond.selects RX4 yX4_alike yX4_alike, Cond.code yX4_alike cX4_alike 5 (some .int), Cond.fieldLink RX4 16 "CardMergerModel" "set" "[I", Cond.fieldLink RX4 13 "CardMergerModel" "name" "[I", Cond.methodLink RX4 49 yX4_at]
def wsX4_pairAt_r2 : List Cond := [Cond.static yX4_at, Cond.code yX4_at cX4_at 3 (some .int), Cond.methodLink RX4 89 yX4_count, Cond.static yX4_count, Cond.code yX4_count cX4_count 3 (some .int), Cond.methodLink RX4 38 yX4_isIn, Cond.static yX4_isIn, Cond.code yX4_isIn cX4_isIn 3 (some .boolean), Cond.methodLink RX4 46 yX4_isFine, Cond.instanceMethod yX4_isFine, Cond.selects RX4 yX4_isFine yX4_isFine, Cond.code yX4_isFine cX4_isFine 2 (some .boolean), Cond.fieldLink RX4 31 "CardMergerModel" "thrown" "I"]
def wsX4_pairAt : List Cond := .code yX4_pairAt cX4_pairAt 7 (some .int) :: ((wsX4_pairAt_r1 ++ wsX4_pairAt_r2) ++ wsX40)
def wsX4_turnDown_r1 : List Cond := [Cond.fieldLink RX4 22 "CardMergerModel" "good" "[I", Cond.fieldLink RX4 25 "CardMergerModel" "forNow" "[I", Cond.methodLink RX4 60 yX4_isCard, Cond.instanceMethod yX4_isCard, Cond.selects RX4 yX4_isCard yX4_isCard, Cond.initialized RX4, Cond.code yX4_isCard cX4_isCard 2 (some .boolean), Cond.fieldLink RX4 35 "CardMergerModel" "cards" "I", Cond.methodLink RX4 38 yX4_isIn, Cond.static yX4_isIn, Cond.code yX4_isIn cX4_isIn 3 (some .boolean), Cond.methodLink RX4 108 yX4_isSuggested, Cond.instanceMethod yX4_isSuggested, Cond.selects RX4 yX4_isSuggested yX4_isSuggested, Cond.code yX4_isSuggested cX4_isSuggested 3 (some .boolean), Cond.methodLink RX4 67 yX4_has, Cond.static yX4_has, Cond.code yX4_has cX4_has 2 (some .boolean), Cond.methodLink RX4 101 yX4_scoreOf, Cond.instanceMethod yX4_scoreOf, Cond.selects RX4 yX4_scoreOf yX4_scoreOf, Cond.code yX4_scoreOf cX4_scoreOf 3 (some .int), Cond.methodLink RX4 86 yX4_groupOf, Cond.instanceMethod yX4_groupOf]
def wsX4_turnDown_r2 : List Cond := [Cond.selects RX4 yX4_groupOf yX4_groupOf, Cond.code yX4_groupOf cX4_groupOf 5 (some .int), Cond.fieldLink RX4 19 "CardMergerModel" "links" "[I", Cond.methodLink RX4 98 yX4_alike, Cond.instanceMethod yX4_alike, Cond.selects RX4 yX4_alike yX4_alike, Cond.code yX4_alike cX4_alike 5 (some .int), Cond.fieldLink RX4 16 "CardMergerModel" "set" "[I", Cond.fieldLink RX4 13 "CardMergerModel" "name" "[I", Cond.methodLink RX4 49 yX4_at, Cond.static yX4_at, Cond.code yX4_at cX4_at 3 (some .int), Cond.methodLink RX4 89 yX4_count, Cond.static yX4_count, Cond.code yX4_count cX4_count 3 (some .int), Cond.methodLink RX4 46 yX4_isFine, Cond.instanceMethod yX4_isFine, Cond.selects RX4 yX4_isFine yX4_isFine, Cond.code yX4_isFine cX4_isFine 2 (some .boolean), Cond.fieldLink RX4 31 "CardMergerModel" "thrown" "I", Cond.methodLink RX4 104 yX4_finds, Cond.instanceMethod yX4_finds, Cond.selects RX4 yX4_finds yX4_finds, Cond.code yX4_finds cX4_finds 6 (some .int)]
def wsX4_turnDown_r3 : List Cond := [Cond.fieldLink RX4 28 "CardMergerModel" "scores" "[I"]
def wsX4_turnDown : List Cond := .code yX4_turnDown cX4_turnDown 5 (some .int) :: ((wsX4_turnDown_r1 ++ (wsX4_turnDown_r2 ++ wsX4_turnDown_r3)) ++ wsX40)
def wsL_add_r1 : List Cond := [Cond.classLink RL 13 "java/lang/IndexOutOfBoundsException", Cond.classLink RL 15 "java/lang/IllegalArgumentException", Cond.classLink RL 17 "java/lang/IllegalStateException", Cond.methodLink RL 7 yX3_add, Cond.instanceMethod yX3_add, Cond.selects RX3 yX3_add yX3_add, Cond.initialized RX3, Cond.code yX3_add cX3_add 3 (some .int), Cond.classLink RX3 50 "java/lang/IllegalStateException", Cond.initialized "java/lang/IllegalStateException", Cond.fieldLink RX3 12 "CardMerger" "cards" "LCardMerger$Cards;", Cond.methodLink RX3 34 yX3_checkBook, Cond.instanceMethod yX3_checkBook, Cond.selects RX3 yX3_checkBook yX3_checkBook, Cond.code yX3_checkBook cX3_checkBook 2 none, Cond.classLink RX3 161 "java/lang/IndexOutOfBoundsException", Cond.initialized "java/lang/IndexOutOfBoundsException", Cond.methodLink RX3 38 yX3_isName, Cond.static yX3_isName, Cond.code yX3_isName cX3_isName 1 (some .boolean), Cond.methodLink RX3 42 yX3_checkArgument, Cond.static yX3_checkArgument, Cond.code yX3_checkArgument cX3_checkArgument 1 none, Cond.classLink RX3 187 "java/lang/IllegalArgumentException"]
def wsL_add_r2 : List Cond := [Cond.initialized "java/lang/IllegalArgumentException", Cond.methodLink RX3 57 yX0_append, Cond.instanceMethod yX0_append, Cond.selects RX0 yX0_append yX0_append, Cond.initialized RX0, Cond.code yX0_append cX0_append 5 (some .int), Cond.fieldLink RX0 26 "CardMerger$Cards" "count" "I", Cond.fieldLink RX0 9 "CardMerger$Cards" "books" "[I", Cond.fieldLink RX0 17 "CardMerger$Cards" "names" "[[I"]
def wsL_add : List Cond := .codeWith yL_add cL_add 5 (some .int) [(0, 10, 13, 13), (0, 10, 17, 15), (0, 10, 21, 17)] :: ((wsL_add_r1 ++ wsL_add_r2) ++ wsX30 ++ wsX00 ++ (vx_atS RX3 54 "java/lang/IllegalStateException" ["java/lang/RuntimeException", "java/lang/Exception"]).filter goodWord ++ (vx_atS RX3 165 "java/lang/IndexOutOfBoundsException" ["java/lang/RuntimeException", "java/lang/Exception"]).filter goodWord ++ (vx_atS RX3 191 "java/lang/IllegalArgumentException" ["java/lang/RuntimeException", "java/lang/Exception"]).filter goodWord)
def wsL_turn_r1 : List Cond := [Cond.classLink RL 13 "java/lang/IndexOutOfBoundsException", Cond.classLink RL 15 "java/lang/IllegalArgumentException", Cond.methodLink RL 19 yX3_turn, Cond.instanceMethod yX3_turn, Cond.selects RX3 yX3_turn yX3_turn, Cond.initialized RX3, Cond.code yX3_turn cX3_turn 6 (some .boolean), Cond.fieldLink RX3 12 "CardMerger" "cards" "LCardMerger$Cards;", Cond.methodLink RX3 61 yX3_checkCard, Cond.instanceMethod yX3_checkCard, Cond.selects RX3 yX3_checkCard yX3_checkCard, Cond.code yX3_checkCard cX3_checkCard 2 none, Cond.classLink RX3 161 "java/lang/IndexOutOfBoundsException", Cond.initialized "java/lang/IndexOutOfBoundsException", Cond.methodLink RX3 64 yX3_isChangeable, Cond.static yX3_isChangeable, Cond.code yX3_isChangeable cX3_isChangeable 1 (some .boolean), Cond.methodLink RX3 67 yX3_isKind, Cond.static yX3_isKind, Cond.code yX3_isKind cX3_isKind 1 (some .boolean), Cond.methodLink RX3 70 yX3_isValue, Cond.static yX3_isValue, Cond.code yX3_isValue cX3_isValue 1 (some .boolean), Cond.methodLink RX3 42 yX3_checkArgument]
def wsL_turn_r2 : List Cond := [Cond.static yX3_checkArgument, Cond.code yX3_checkArgument cX3_checkArgument 1 none, Cond.classLink RX3 187 "java/lang/IllegalArgumentException", Cond.initialized "java/lang/IllegalArgumentException", Cond.methodLink RX3 73 yX0_setOf, Cond.instanceMethod yX0_setOf, Cond.selects RX0 yX0_setOf yX0_setOf, Cond.initialized RX0, Cond.code yX0_setOf cX0_setOf 4 (some .int), Cond.fieldLink RX0 20 "CardMerger$Cards" "sets" "[[I", Cond.methodLink RX3 77 yX0_putSet, Cond.instanceMethod yX0_putSet, Cond.selects RX0 yX0_putSet yX0_putSet, Cond.code yX0_putSet cX0_putSet 5 none, Cond.fieldLink RX0 23 "CardMerger$Cards" "mineChanges" "[I", Cond.methodLink RX0 30 yX0_setOf, Cond.methodLink RX3 81 yX3_has, Cond.static yX3_has, Cond.code yX3_has cX3_has 2 (some .boolean)]
def wsL_turn : List Cond := .codeWith yL_turn cL_turn 7 (some .int) [(0, 21, 24, 13), (0, 21, 28, 15)] :: ((wsL_turn_r1 ++ wsL_turn_r2) ++ wsX30 ++ wsX00 ++ (vx_atS RX3 165 "java/lang/IndexOutOfBoundsException" ["java/lang/RuntimeException", "java/lang/Exception"]).filter goodWord ++ (vx_atS RX3 191 "java/lang/IllegalArgumentException" ["java/lang/RuntimeException", "java/lang/Exception"]).filter goodWord)
def wsL_rename_r1 : List Cond := [Cond.classLink RL 13 "java/lang/IndexOutOfBoundsException", Cond.classLink RL 15 "java/lang/IllegalArgumentException", Cond.methodLink RL 23 yX3_rename, Cond.instanceMethod yX3_rename, Cond.selects RX3 yX3_rename yX3_rename, Cond.initialized RX3, Cond.code yX3_rename cX3_rename 5 (some .int), Cond.fieldLink RX3 12 "CardMerger" "cards" "LCardMerger$Cards;", Cond.methodLink RX3 61 yX3_checkCard, Cond.instanceMethod yX3_checkCard, Cond.selects RX3 yX3_checkCard yX3_checkCard, Cond.code yX3_checkCard cX3_checkCard 2 none, Cond.classLink RX3 161 "java/lang/IndexOutOfBoundsException", Cond.initialized "java/lang/IndexOutOfBoundsException", Cond.methodLink RX3 64 yX3_isChangeable, Cond.static yX3_isChangeable, Cond.code yX3_isChangeable cX3_isChangeable 1 (some .boolean), Cond.methodLink RX3 38 yX3_isName, Cond.static yX3_isName, Cond.code yX3_isName cX3_isName 1 (some .boolean), Cond.methodLink RX3 42 yX3_checkArgument, Cond.static yX3_checkArgument, Cond.code yX3_checkArgument cX3_checkArgument 1 none, Cond.classLink RX3 187 "java/lang/IllegalArgumentException"]
def wsL_rename_r2 : List Cond := [Cond.initialized "java/lang/IllegalArgumentException", Cond.methodLink RX3 85 yX0_nameIn, Cond.instanceMethod yX0_nameIn, Cond.selects RX0 yX0_nameIn yX0_nameIn, Cond.initialized RX0, Cond.code yX0_nameIn cX0_nameIn 3 (some .int), Cond.fieldLink RX0 17 "CardMerger$Cards" "names" "[[I", Cond.methodLink RX3 88 yX0_putName, Cond.instanceMethod yX0_putName, Cond.selects RX0 yX0_putName yX0_putName, Cond.code yX0_putName cX0_putName 4 none, Cond.fieldLink RX0 23 "CardMerger$Cards" "mineChanges" "[I"]
def wsL_rename : List Cond := .codeWith yL_rename cL_rename 6 (some .int) [(0, 12, 15, 13), (0, 12, 19, 15)] :: ((wsL_rename_r1 ++ wsL_rename_r2) ++ wsX30 ++ wsX00 ++ (vx_atS RX3 165 "java/lang/IndexOutOfBoundsException" ["java/lang/RuntimeException", "java/lang/Exception"]).filter goodWord ++ (vx_atS RX3 191 "java/lang/IllegalArgumentException" ["java/lang/RuntimeException", "java/lang/Exception"]).filter goodWord)
def wsL_sync_r1 : List Cond := [Cond.classLink RL 13 "java/lang/IndexOutOfBoundsException", Cond.methodLink RL 27 yX3_sync, Cond.instanceMethod yX3_sync, Cond.selects RX3 yX3_sync yX3_sync, Cond.initialized RX3, Cond.code yX3_sync cX3_sync 4 (some .int), Cond.fieldLink RX3 12 "CardMerger" "cards" "LCardMerger$Cards;", Cond.methodLink RX3 34 yX3_checkBook, Cond.instanceMethod yX3_checkBook, Cond.selects RX3 yX3_checkBook yX3_checkBook, Cond.code yX3_checkBook cX3_checkBook 2 none, Cond.classLink RX3 161 "java/lang/IndexOutOfBoundsException", Cond.initialized "java/lang/IndexOutOfBoundsException", Cond.methodLink RX3 92 yX0_isIn, Cond.instanceMethod yX0_isIn, Cond.selects RX0 yX0_isIn yX0_isIn, Cond.initialized RX0, Cond.code yX0_isIn cX0_isIn 3 (some .boolean), Cond.fieldLink RX0 9 "CardMerger$Cards" "books" "[I", Cond.methodLink RX3 95 yX0_namesClash, Cond.instanceMethod yX0_namesClash, Cond.selects RX0 yX0_namesClash yX0_namesClash, Cond.code yX0_namesClash cX0_namesClash 5 (some .boolean), Cond.methodLink RX0 38 yX0_nameIn]
def wsL_sync_r2 : List Cond := [Cond.instanceMethod yX0_nameIn, Cond.selects RX0 yX0_nameIn yX0_nameIn, Cond.code yX0_nameIn cX0_nameIn 3 (some .int), Cond.fieldLink RX0 17 "CardMerger$Cards" "names" "[[I", Cond.methodLink RX3 98 yX0_mergeVersions, Cond.instanceMethod yX0_mergeVersions, Cond.selects RX0 yX0_mergeVersions yX0_mergeVersions, Cond.code yX0_mergeVersions cX0_mergeVersions 6 none, Cond.methodLink RX0 42 yX0_mergedName, Cond.instanceMethod yX0_mergedName, Cond.selects RX0 yX0_mergedName yX0_mergedName, Cond.code yX0_mergedName cX0_mergedName 3 (some .int), Cond.methodLink RX0 46 yX0_mergedSet, Cond.instanceMethod yX0_mergedSet, Cond.selects RX0 yX0_mergedSet yX0_mergedSet, Cond.code yX0_mergedSet cX0_mergedSet 6 (some .int), Cond.methodLink RX0 30 yX0_setOf, Cond.instanceMethod yX0_setOf, Cond.selects RX0 yX0_setOf yX0_setOf, Cond.code yX0_setOf cX0_setOf 4 (some .int), Cond.fieldLink RX0 20 "CardMerger$Cards" "sets" "[[I", Cond.methodLink RX0 49 yX0_putName, Cond.instanceMethod yX0_putName, Cond.selects RX0 yX0_putName yX0_putName]
def wsL_sync_r3 : List Cond := [Cond.code yX0_putName cX0_putName 4 none, Cond.fieldLink RX0 23 "CardMerger$Cards" "mineChanges" "[I", Cond.methodLink RX0 53 yX0_putSet, Cond.instanceMethod yX0_putSet, Cond.selects RX0 yX0_putSet yX0_putSet, Cond.code yX0_putSet cX0_putSet 5 none]
def wsL_sync : List Cond := .codeWith yL_sync cL_sync 4 (some .int) [(0, 9, 12, 13)] :: ((wsL_sync_r1 ++ (wsL_sync_r2 ++ wsL_sync_r3)) ++ wsX30 ++ wsX00 ++ (vx_atS RX3 165 "java/lang/IndexOutOfBoundsException" ["java/lang/RuntimeException", "java/lang/Exception"]).filter goodWord)
def wsL_values_r1 : List Cond := [Cond.classLink RL 13 "java/lang/IndexOutOfBoundsException", Cond.classLink RL 15 "java/lang/IllegalArgumentException", Cond.methodLink RL 31 yX3_values, Cond.instanceMethod yX3_values, Cond.selects RX3 yX3_values yX3_values, Cond.initialized RX3, Cond.code yX3_values cX3_values 4 (some .int), Cond.fieldLink RX3 12 "CardMerger" "cards" "LCardMerger$Cards;", Cond.methodLink RX3 61 yX3_checkCard, Cond.instanceMethod yX3_checkCard, Cond.selects RX3 yX3_checkCard yX3_checkCard, Cond.code yX3_checkCard cX3_checkCard 2 none, Cond.classLink RX3 161 "java/lang/IndexOutOfBoundsException", Cond.initialized "java/lang/IndexOutOfBoundsException", Cond.methodLink RX3 101 yX3_isVersion, Cond.static yX3_isVersion, Cond.code yX3_isVersion cX3_isVersion 1 (some .boolean), Cond.methodLink RX3 64 yX3_isChangeable, Cond.static yX3_isChangeable, Cond.code yX3_isChangeable cX3_isChangeable 1 (some .boolean), Cond.methodLink RX3 67 yX3_isKind, Cond.static yX3_isKind, Cond.code yX3_isKind cX3_isKind 1 (some .boolean), Cond.methodLink RX3 42 yX3_checkArgument]
def wsL_values_r2 : List Cond := [Cond.static yX3_checkArgument, Cond.code yX3_checkArgument cX3_checkArgument 1 none, Cond.classLink RX3 187 "java/lang/IllegalArgumentException", Cond.initialized "java/lang/IllegalArgumentException", Cond.methodLink RX3 73 yX0_setOf, Cond.instanceMethod yX0_setOf, Cond.selects RX0 yX0_setOf yX0_setOf, Cond.initialized RX0, Cond.code yX0_setOf cX0_setOf 4 (some .int), Cond.fieldLink RX0 20 "CardMerger$Cards" "sets" "[[I"]
def wsL_values : List Cond := .codeWith yL_values cL_values 6 (some .int) [(0, 12, 15, 13), (0, 12, 19, 15)] :: ((wsL_values_r1 ++ wsL_values_r2) ++ wsX30 ++ wsX00 ++ (vx_atS RX3 165 "java/lang/IndexOutOfBoundsException" ["java/lang/RuntimeException", "java/lang/Exception"]).filter goodWord ++ (vx_atS RX3 191 "java/lang/IllegalArgumentException" ["java/lang/RuntimeException", "java/lang/Exception"]).filter goodWord)
def wsL_nameOf_r1 : List Cond := [Cond.classLink RL 13 "java/lang/IndexOutOfBoundsException", Cond.classLink RL 15 "java/lang/IllegalArgumentException", Cond.methodLink RL 34 yX3_nameOf, Cond.instanceMethod yX3_nameOf, Cond.selects RX3 yX3_nameOf yX3_nameOf, Cond.initialized RX3, Cond.code yX3_nameOf cX3_nameOf 3 (some .int), Cond.fieldLink RX3 12 "CardMerger" "cards" "LCardMerger$Cards;", Cond.methodLink RX3 61 yX3_checkCard, Cond.instanceMethod yX3_checkCard, Cond.selects RX3 yX3_checkCard yX3_checkCard, Cond.code yX3_checkCard cX3_checkCard 2 none, Cond.classLink RX3 161 "java/lang/IndexOutOfBoundsException", Cond.initialized "java/lang/IndexOutOfBoundsException", Cond.methodLink RX3 101 yX3_isVersion, Cond.static yX3_isVersion, Cond.code yX3_isVersion cX3_isVersion 1 (some .boolean), Cond.methodLink RX3 64 yX3_isChangeable, Cond.static yX3_isChangeable, Cond.code yX3_isChangeable cX3_isChangeable 1 (some .boolean), Cond.methodLink RX3 42 yX3_checkArgument, Cond.static yX3_checkArgument, Cond.code yX3_checkArgument cX3_checkArgument 1 none, Cond.classLink RX3 187 "java/lang/IllegalArgumentException"]
def wsL_nameOf_r2 : List Cond := [Cond.initialized "java/lang/IllegalArgumentException", Cond.methodLink RX3 85 yX0_nameIn, Cond.instanceMethod yX0_nameIn, Cond.selects RX0 yX0_nameIn yX0_nameIn, Cond.initialized RX0, Cond.code yX0_nameIn cX0_nameIn 3 (some .int), Cond.fieldLink RX0 17 "CardMerger$Cards" "names" "[[I"]
def wsL_nameOf : List Cond := .codeWith yL_nameOf cL_nameOf 5 (some .int) [(0, 10, 13, 13), (0, 10, 17, 15)] :: ((wsL_nameOf_r1 ++ wsL_nameOf_r2) ++ wsX30 ++ wsX00 ++ (vx_atS RX3 165 "java/lang/IndexOutOfBoundsException" ["java/lang/RuntimeException", "java/lang/Exception"]).filter goodWord ++ (vx_atS RX3 191 "java/lang/IllegalArgumentException" ["java/lang/RuntimeException", "java/lang/Exception"]).filter goodWord)
def wsL_merged_r1 : List Cond := [Cond.classLink RL 13 "java/lang/IndexOutOfBoundsException", Cond.classLink RL 15 "java/lang/IllegalArgumentException", Cond.methodLink RL 37 yX3_merged, Cond.instanceMethod yX3_merged, Cond.selects RX3 yX3_merged yX3_merged, Cond.initialized RX3, Cond.code yX3_merged cX3_merged 3 (some .int), Cond.fieldLink RX3 12 "CardMerger" "cards" "LCardMerger$Cards;", Cond.methodLink RX3 61 yX3_checkCard, Cond.instanceMethod yX3_checkCard, Cond.selects RX3 yX3_checkCard yX3_checkCard, Cond.code yX3_checkCard cX3_checkCard 2 none, Cond.classLink RX3 161 "java/lang/IndexOutOfBoundsException", Cond.initialized "java/lang/IndexOutOfBoundsException", Cond.methodLink RX3 67 yX3_isKind, Cond.static yX3_isKind, Cond.code yX3_isKind cX3_isKind 1 (some .boolean), Cond.methodLink RX3 42 yX3_checkArgument, Cond.static yX3_checkArgument, Cond.code yX3_checkArgument cX3_checkArgument 1 none, Cond.classLink RX3 187 "java/lang/IllegalArgumentException", Cond.initialized "java/lang/IllegalArgumentException", Cond.methodLink RX3 104 yX0_mergedSet, Cond.instanceMethod yX0_mergedSet]
def wsL_merged_r2 : List Cond := [Cond.selects RX0 yX0_mergedSet yX0_mergedSet, Cond.initialized RX0, Cond.code yX0_mergedSet cX0_mergedSet 6 (some .int), Cond.methodLink RX0 30 yX0_setOf, Cond.instanceMethod yX0_setOf, Cond.selects RX0 yX0_setOf yX0_setOf, Cond.code yX0_setOf cX0_setOf 4 (some .int), Cond.fieldLink RX0 20 "CardMerger$Cards" "sets" "[[I"]
def wsL_merged : List Cond := .codeWith yL_merged cL_merged 5 (some .int) [(0, 10, 13, 13), (0, 10, 17, 15)] :: ((wsL_merged_r1 ++ wsL_merged_r2) ++ wsX30 ++ wsX00 ++ (vx_atS RX3 165 "java/lang/IndexOutOfBoundsException" ["java/lang/RuntimeException", "java/lang/Exception"]).filter goodWord ++ (vx_atS RX3 191 "java/lang/IllegalArgumentException" ["java/lang/RuntimeException", "java/lang/Exception"]).filter goodWord)
def wsL_mergedByValues_r1 : List Cond := [Cond.classLink RL 13 "java/lang/IndexOutOfBoundsException", Cond.classLink RL 15 "java/lang/IllegalArgumentException", Cond.methodLink RL 40 yX3_mergedByValues, Cond.instanceMethod yX3_mergedByValues, Cond.selects RX3 yX3_mergedByValues yX3_mergedByValues, Cond.initialized RX3, Cond.code yX3_mergedByValues cX3_mergedByValues 3 (some .int), Cond.fieldLink RX3 12 "CardMerger" "cards" "LCardMerger$Cards;", Cond.methodLink RX3 61 yX3_checkCard, Cond.instanceMethod yX3_checkCard, Cond.selects RX3 yX3_checkCard yX3_checkCard, Cond.code yX3_checkCard cX3_checkCard 2 none, Cond.classLink RX3 161 "java/lang/IndexOutOfBoundsException", Cond.initialized "java/lang/IndexOutOfBoundsException", Cond.methodLink RX3 67 yX3_isKind, Cond.static yX3_isKind, Cond.code yX3_isKind cX3_isKind 1 (some .boolean), Cond.methodLink RX3 42 yX3_checkArgument, Cond.static yX3_checkArgument, Cond.code yX3_checkArgument cX3_checkArgument 1 none, Cond.classLink RX3 187 "java/lang/IllegalArgumentException", Cond.initialized "java/lang/IllegalArgumentException", Cond.methodLink RX3 107 yX0_mergedSetByValues, Cond.instanceMethod yX0_mergedSetByValues]
def wsL_mergedByValues_r2 : List Cond := [Cond.selects RX0 yX0_mergedSetByValues yX0_mergedSetByValues, Cond.initialized RX0, Cond.code yX0_mergedSetByValues cX0_mergedSetByValues 13 (some .int), Cond.methodLink RX0 30 yX0_setOf, Cond.instanceMethod yX0_setOf, Cond.selects RX0 yX0_setOf yX0_setOf, Cond.code yX0_setOf cX0_setOf 4 (some .int), Cond.fieldLink RX0 20 "CardMerger$Cards" "sets" "[[I", Cond.static yX3_has, Cond.code yX3_has cX3_has 2 (some .boolean)]
def wsL_mergedByValues : List Cond := .codeWith yL_mergedByValues cL_mergedByValues 5 (some .int) [(0, 10, 13, 13), (0, 10, 17, 15)] :: ((wsL_mergedByValues_r1 ++ wsL_mergedByValues_r2) ++ wsX30 ++ wsX00 ++ (vx_atS RX3 165 "java/lang/IndexOutOfBoundsException" ["java/lang/RuntimeException", "java/lang/Exception"]).filter goodWord ++ (vx_atS RX3 191 "java/lang/IllegalArgumentException" ["java/lang/RuntimeException", "java/lang/Exception"]).filter goodWord)
def wsL_unsynced_r1 : List Cond := [Cond.classLink RL 13 "java/lang/IndexOutOfBoundsException", Cond.methodLink RL 43 yX3_unsynced, Cond.instanceMethod yX3_unsynced, Cond.selects RX3 yX3_unsynced yX3_unsynced, Cond.initialized RX3, Cond.code yX3_unsynced cX3_unsynced 4 (some .int), Cond.fieldLink RX3 12 "CardMerger" "cards" "LCardMerger$Cards;", Cond.methodLink RX3 34 yX3_checkBook, Cond.instanceMethod yX3_checkBook, Cond.selects RX3 yX3_checkBook yX3_checkBook, Cond.code yX3_checkBook cX3_checkBook 2 none, Cond.classLink RX3 161 "java/lang/IndexOutOfBoundsException", Cond.initialized "java/lang/IndexOutOfBoundsException", Cond.methodLink RX3 92 yX0_isIn, Cond.instanceMethod yX0_isIn, Cond.selects RX0 yX0_isIn yX0_isIn, Cond.initialized RX0, Cond.code yX0_isIn cX0_isIn 3 (some .boolean), Cond.fieldLink RX0 9 "CardMerger$Cards" "books" "[I", Cond.methodLink RX3 110 yX0_isSynced, Cond.instanceMethod yX0_isSynced, Cond.selects RX0 yX0_isSynced yX0_isSynced, Cond.code yX0_isSynced cX0_isSynced 6 (some .boolean), Cond.methodLink RX0 42 yX0_mergedName]
def wsL_unsynced_r2 : List Cond := [Cond.instanceMethod yX0_mergedName, Cond.selects RX0 yX0_mergedName yX0_mergedName, Cond.code yX0_mergedName cX0_mergedName 3 (some .int), Cond.methodLink RX0 38 yX0_nameIn, Cond.instanceMethod yX0_nameIn, Cond.selects RX0 yX0_nameIn yX0_nameIn, Cond.code yX0_nameIn cX0_nameIn 3 (some .int), Cond.fieldLink RX0 17 "CardMerger$Cards" "names" "[[I", Cond.methodLink RX0 46 yX0_mergedSet, Cond.instanceMethod yX0_mergedSet, Cond.selects RX0 yX0_mergedSet yX0_mergedSet, Cond.code yX0_mergedSet cX0_mergedSet 6 (some .int), Cond.methodLink RX0 30 yX0_setOf, Cond.instanceMethod yX0_setOf, Cond.selects RX0 yX0_setOf yX0_setOf, Cond.code yX0_setOf cX0_setOf 4 (some .int), Cond.fieldLink RX0 20 "CardMerger$Cards" "sets" "[[I"]
def wsL_unsynced : List Cond := .codeWith yL_unsynced cL_unsynced 4 (some .int) [(0, 9, 12, 13)] :: ((wsL_unsynced_r1 ++ wsL_unsynced_r2) ++ wsX30 ++ wsX00 ++ (vx_atS RX3 165 "java/lang/IndexOutOfBoundsException" ["java/lang/RuntimeException", "java/lang/Exception"]).filter goodWord)
def wsL_link_r1 : List Cond := [Cond.classLink RL 13 "java/lang/IndexOutOfBoundsException", Cond.classLink RL 15 "java/lang/IllegalArgumentException", Cond.classLink RL 17 "java/lang/IllegalStateException", Cond.methodLink RL 46 yX3_link, Cond.instanceMethod yX3_link, Cond.selects RX3 yX3_link yX3_link, Cond.initialized RX3, Cond.code yX3_link cX3_link 3 (some .int), Cond.classLink RX3 50 "java/lang/IllegalStateException", Cond.initialized "java/lang/IllegalStateException", Cond.fieldLink RX3 19 "CardMerger" "links" "LCardMerger$Links;", Cond.methodLink RX3 113 yX3_checkTwoCards, Cond.instanceMethod yX3_checkTwoCards, Cond.selects RX3 yX3_checkTwoCards yX3_checkTwoCards, Cond.code yX3_checkTwoCards cX3_checkTwoCards 3 none, Cond.methodLink RX3 61 yX3_checkCard, Cond.instanceMethod yX3_checkCard, Cond.selects RX3 yX3_checkCard yX3_checkCard, Cond.code yX3_checkCard cX3_checkCard 2 none, Cond.classLink RX3 161 "java/lang/IndexOutOfBoundsException", Cond.initialized "java/lang/IndexOutOfBoundsException", Cond.fieldLink RX3 12 "CardMerger" "cards" "LCardMerger$Cards;", Cond.methodLink RX3 42 yX3_checkArgument, Cond.static yX3_checkArgument]
def wsL_link_r2 : List Cond := [Cond.code yX3_checkArgument cX3_checkArgument 1 none, Cond.classLink RX3 187 "java/lang/IllegalArgumentException", Cond.initialized "java/lang/IllegalArgumentException", Cond.methodLink RX3 117 yX1_areLinked, Cond.instanceMethod yX1_areLinked, Cond.selects RX1 yX1_areLinked yX1_areLinked, Cond.initialized RX1, Cond.code yX1_areLinked cX1_areLinked 3 (some .boolean), Cond.fieldLink RX1 9 "CardMerger$Links" "linked" "[I", Cond.static yX3_has, Cond.code yX3_has cX3_has 2 (some .boolean), Cond.methodLink RX3 122 yX1_connect, Cond.instanceMethod yX1_connect, Cond.selects RX1 yX1_connect yX1_connect, Cond.code yX1_connect cX1_connect 3 none, Cond.fieldLink RX1 15 "CardMerger$Links" "groups" "[I", Cond.methodLink RX1 22 yX1_putGroup, Cond.instanceMethod yX1_putGroup, Cond.selects RX1 yX1_putGroup yX1_putGroup, Cond.code yX1_putGroup cX1_putGroup 3 none, Cond.methodLink RX3 125 yX1_groupOf, Cond.instanceMethod yX1_groupOf, Cond.selects RX1 yX1_groupOf yX1_groupOf, Cond.code yX1_groupOf cX1_groupOf 2 (some .int)]
def wsL_link_r3 : List Cond := [Cond.methodLink RX3 129 yJ6_bitCount_0f7a4, Cond.static yJ6_bitCount_0f7a4, Cond.initialized RJ6, Cond.code yJ6_bitCount_0f7a4 cJ6_bitCount_0f7a4 1 (some .int), Cond.constant RJ6 265 (1431655765), Cond.constant RJ6 266 (858993459), Cond.constant RJ6 267 (252645135)]
def wsL_link : List Cond := .codeWith yL_link cL_link 5 (some .int) [(0, 10, 13, 13), (0, 10, 17, 15), (0, 10, 21, 17)] :: ((wsL_link_r1 ++ (wsL_link_r2 ++ wsL_link_r3)) ++ wsX30 ++ wsX00 ++ wsX10 ++ (vx_atS RX3 54 "java/lang/IllegalStateException" ["java/lang/RuntimeException", "java/lang/Exception"]).filter goodWord ++ (vx_atS RX3 165 "java/lang/IndexOutOfBoundsException" ["java/lang/RuntimeException", "java/lang/Exception"]).filter goodWord ++ (vx_atS RX3 191 "java/lang/IllegalArgumentException" ["java/lang/RuntimeException", "java/lang/Exception"]).filter goodWord)
def wsL_cut_r1 : List Cond := [Cond.classLink RL 13 "java/lang/IndexOutOfBoundsException", Cond.classLink RL 17 "java/lang/IllegalStateException", Cond.methodLink RL 49 yX3_cut, Cond.instanceMethod yX3_cut, Cond.selects RX3 yX3_cut yX3_cut, Cond.initialized RX3, Cond.code yX3_cut cX3_cut 3 (some .boolean), Cond.classLink RX3 50 "java/lang/IllegalStateException", Cond.initialized "java/lang/IllegalStateException", Cond.fieldLink RX3 19 "CardMerger" "links" "LCardMerger$Links;", Cond.methodLink RX3 61 yX3_checkCard, Cond.instanceMethod yX3_checkCard, Cond.selects RX3 yX3_checkCard yX3_checkCard, Cond.code yX3_checkCard cX3_checkCard 2 none, Cond.classLink RX3 161 "java/lang/IndexOutOfBoundsException", Cond.initialized "java/lang/IndexOutOfBoundsException", Cond.fieldLink RX3 12 "CardMerger" "cards" "LCardMerger$Cards;", Cond.methodLink RX3 117 yX1_areLinked, Cond.instanceMethod yX1_areLinked, Cond.selects RX1 yX1_areLinked yX1_areLinked, Cond.initialized RX1, Cond.code yX1_areLinked cX1_areLinked 3 (some .boolean), Cond.fieldLink RX1 9 "CardMerger$Links" "linked" "[I", Cond.static yX3_has]
def wsL_cut_r2 : List Cond := [Cond.code yX3_has cX3_has 2 (some .boolean), Cond.methodLink RX3 136 yX1_disconnect, Cond.instanceMethod yX1_disconnect, Cond.selects RX1 yX1_disconnect yX1_disconnect, Cond.code yX1_disconnect cX1_disconnect 3 none, Cond.methodLink RX1 26 yX1_reachedFrom, Cond.instanceMethod yX1_reachedFrom, Cond.selects RX1 yX1_reachedFrom yX1_reachedFrom, Cond.code yX1_reachedFrom cX1_reachedFrom 4 (some .int), Cond.methodLink RX1 30 yX1_linkedToAny, Cond.instanceMethod yX1_linkedToAny, Cond.selects RX1 yX1_linkedToAny yX1_linkedToAny, Cond.code yX1_linkedToAny cX1_linkedToAny 4 (some .int), Cond.methodLink RX1 22 yX1_putGroup, Cond.instanceMethod yX1_putGroup, Cond.selects RX1 yX1_putGroup yX1_putGroup, Cond.code yX1_putGroup cX1_putGroup 3 none, Cond.fieldLink RX1 15 "CardMerger$Links" "groups" "[I", Cond.methodLink RX3 139 yX1_areTogether, Cond.instanceMethod yX1_areTogether, Cond.selects RX1 yX1_areTogether yX1_areTogether, Cond.code yX1_areTogether cX1_areTogether 3 (some .boolean)]
def wsL_cut : List Cond := .codeWith yL_cut cL_cut 5 (some .int) [(0, 17, 20, 13), (0, 17, 24, 17)] :: ((wsL_cut_r1 ++ wsL_cut_r2) ++ wsX30 ++ wsX00 ++ wsX10 ++ (vx_atS RX3 54 "java/lang/IllegalStateException" ["java/lang/RuntimeException", "java/lang/Exception"]).filter goodWord ++ (vx_atS RX3 165 "java/lang/IndexOutOfBoundsException" ["java/lang/RuntimeException", "java/lang/Exception"]).filter goodWord)
def wsL_group : List Cond := .codeWith yL_group cL_group 4 (some .int) [(0, 9, 12, 13)] :: ([.classLink RL 13 "java/lang/IndexOutOfBoundsException", .methodLink RL 53 yX3_group, .instanceMethod yX3_group, .selects RX3 yX3_group yX3_group, .initialized RX3, .code yX3_group cX3_group 2 (some .int), .fieldLink RX3 19 "CardMerger" "links" "LCardMerger$Links;", .methodLink RX3 61 yX3_checkCard, .instanceMethod yX3_checkCard, .selects RX3 yX3_checkCard yX3_checkCard, .code yX3_checkCard cX3_checkCard 2 none, .classLink RX3 161 "java/lang/IndexOutOfBoundsException", .initialized "java/lang/IndexOutOfBoundsException", .fieldLink RX3 12 "CardMerger" "cards" "LCardMerger$Cards;", .methodLink RX3 125 yX1_groupOf, .instanceMethod yX1_groupOf, .selects RX1 yX1_groupOf yX1_groupOf, .initialized RX1, .code yX1_groupOf cX1_groupOf 2 (some .int), .fieldLink RX1 15 "CardMerger$Links" "groups" "[I"] ++ wsX30 ++ wsX00 ++ wsX10 ++ (vx_atS RX3 165 "java/lang/IndexOutOfBoundsException" ["java/lang/RuntimeException", "java/lang/Exception"]).filter goodWord)
def wsL_preferred_r1 : List Cond := [Cond.classLink RL 13 "java/lang/IndexOutOfBoundsException", Cond.methodLink RL 56 yX3_preferred, Cond.instanceMethod yX3_preferred, Cond.selects RX3 yX3_preferred yX3_preferred, Cond.initialized RX3, Cond.code yX3_preferred cX3_preferred 2 (some .int), Cond.fieldLink RX3 12 "CardMerger" "cards" "LCardMerger$Cards;", Cond.fieldLink RX3 19 "CardMerger" "links" "LCardMerger$Links;", Cond.methodLink RX3 61 yX3_checkCard, Cond.instanceMethod yX3_checkCard, Cond.selects RX3 yX3_checkCard yX3_checkCard, Cond.code yX3_checkCard cX3_checkCard 2 none, Cond.classLink RX3 161 "java/lang/IndexOutOfBoundsException", Cond.initialized "java/lang/IndexOutOfBoundsException", Cond.methodLink RX3 125 yX1_groupOf, Cond.instanceMethod yX1_groupOf, Cond.selects RX1 yX1_groupOf yX1_groupOf, Cond.initialized RX1, Cond.code yX1_groupOf cX1_groupOf 2 (some .int), Cond.fieldLink RX1 15 "CardMerger$Links" "groups" "[I", Cond.methodLink RX3 145 yX0_preferredOf, Cond.instanceMethod yX0_preferredOf, Cond.selects RX0 yX0_preferredOf yX0_preferredOf, Cond.initialized RX0]
def wsL_preferred_r2 : List Cond := [Cond.code yX0_preferredOf cX0_preferredOf 5 (some .int), Cond.fieldLink RX0 26 "CardMerger$Cards" "count" "I", Cond.static yX3_has, Cond.code yX3_has cX3_has 2 (some .boolean), Cond.methodLink RX0 62 yX0_isAhead, Cond.instanceMethod yX0_isAhead, Cond.selects RX0 yX0_isAhead yX0_isAhead, Cond.code yX0_isAhead cX0_isAhead 3 (some .boolean), Cond.fieldLink RX0 9 "CardMerger$Cards" "books" "[I"]
def wsL_preferred : List Cond := .codeWith yL_preferred cL_preferred 4 (some .int) [(0, 9, 12, 13)] :: ((wsL_preferred_r1 ++ wsL_preferred_r2) ++ wsX30 ++ wsX00 ++ wsX10 ++ (vx_atS RX3 165 "java/lang/IndexOutOfBoundsException" ["java/lang/RuntimeException", "java/lang/Exception"]).filter goodWord)
def wsL_shown_r1 : List Cond := [Cond.classLink RL 13 "java/lang/IndexOutOfBoundsException", Cond.classLink RL 15 "java/lang/IllegalArgumentException", Cond.methodLink RL 59 yX3_shown, Cond.instanceMethod yX3_shown, Cond.selects RX3 yX3_shown yX3_shown, Cond.initialized RX3, Cond.code yX3_shown cX3_shown 3 (some .int), Cond.fieldLink RX3 12 "CardMerger" "cards" "LCardMerger$Cards;", Cond.fieldLink RX3 19 "CardMerger" "links" "LCardMerger$Links;", Cond.methodLink RX3 61 yX3_checkCard, Cond.instanceMethod yX3_checkCard, Cond.selects RX3 yX3_checkCard yX3_checkCard, Cond.code yX3_checkCard cX3_checkCard 2 none, Cond.classLink RX3 161 "java/lang/IndexOutOfBoundsException", Cond.initialized "java/lang/IndexOutOfBoundsException", Cond.methodLink RX3 67 yX3_isKind, Cond.static yX3_isKind, Cond.code yX3_isKind cX3_isKind 1 (some .boolean), Cond.methodLink RX3 42 yX3_checkArgument, Cond.static yX3_checkArgument, Cond.code yX3_checkArgument cX3_checkArgument 1 none, Cond.classLink RX3 187 "java/lang/IllegalArgumentException", Cond.initialized "java/lang/IllegalArgumentException", Cond.methodLink RX3 125 yX1_groupOf]
def wsL_shown_r2 : List Cond := [Cond.instanceMethod yX1_groupOf, Cond.selects RX1 yX1_groupOf yX1_groupOf, Cond.initialized RX1, Cond.code yX1_groupOf cX1_groupOf 2 (some .int), Cond.fieldLink RX1 15 "CardMerger$Links" "groups" "[I", Cond.methodLink RX3 148 yX0_mineOfAll, Cond.instanceMethod yX0_mineOfAll, Cond.selects RX0 yX0_mineOfAll yX0_mineOfAll, Cond.initialized RX0, Cond.code yX0_mineOfAll cX0_mineOfAll 5 (some .int), Cond.fieldLink RX0 26 "CardMerger$Cards" "count" "I", Cond.static yX3_has, Cond.code yX3_has cX3_has 2 (some .boolean), Cond.methodLink RX0 30 yX0_setOf, Cond.instanceMethod yX0_setOf, Cond.selects RX0 yX0_setOf yX0_setOf, Cond.code yX0_setOf cX0_setOf 4 (some .int), Cond.fieldLink RX0 20 "CardMerger$Cards" "sets" "[[I"]
def wsL_shown : List Cond := .codeWith yL_shown cL_shown 5 (some .int) [(0, 10, 13, 13), (0, 10, 17, 15)] :: ((wsL_shown_r1 ++ wsL_shown_r2) ++ wsX30 ++ wsX00 ++ wsX10 ++ (vx_atS RX3 165 "java/lang/IndexOutOfBoundsException" ["java/lang/RuntimeException", "java/lang/Exception"]).filter goodWord ++ (vx_atS RX3 191 "java/lang/IllegalArgumentException" ["java/lang/RuntimeException", "java/lang/Exception"]).filter goodWord)
def wsL_edit_r1 : List Cond := [Cond.classLink RL 13 "java/lang/IndexOutOfBoundsException", Cond.classLink RL 15 "java/lang/IllegalArgumentException", Cond.methodLink RL 62 yX3_edit, Cond.instanceMethod yX3_edit, Cond.selects RX3 yX3_edit yX3_edit, Cond.initialized RX3, Cond.code yX3_edit cX3_edit 6 (some .int), Cond.fieldLink RX3 19 "CardMerger" "links" "LCardMerger$Links;", Cond.fieldLink RX3 12 "CardMerger" "cards" "LCardMerger$Cards;", Cond.methodLink RX3 61 yX3_checkCard, Cond.instanceMethod yX3_checkCard, Cond.selects RX3 yX3_checkCard yX3_checkCard, Cond.code yX3_checkCard cX3_checkCard 2 none, Cond.classLink RX3 161 "java/lang/IndexOutOfBoundsException", Cond.initialized "java/lang/IndexOutOfBoundsException", Cond.methodLink RX3 67 yX3_isKind, Cond.static yX3_isKind, Cond.code yX3_isKind cX3_isKind 1 (some .boolean), Cond.methodLink RX3 70 yX3_isValue, Cond.static yX3_isValue, Cond.code yX3_isValue cX3_isValue 1 (some .boolean), Cond.methodLink RX3 42 yX3_checkArgument, Cond.static yX3_checkArgument, Cond.code yX3_checkArgument cX3_checkArgument 1 none]
def wsL_edit_r2 : List Cond := [Cond.classLink RX3 187 "java/lang/IllegalArgumentException", Cond.initialized "java/lang/IllegalArgumentException", Cond.methodLink RX3 125 yX1_groupOf, Cond.instanceMethod yX1_groupOf, Cond.selects RX1 yX1_groupOf yX1_groupOf, Cond.initialized RX1, Cond.code yX1_groupOf cX1_groupOf 2 (some .int), Cond.fieldLink RX1 15 "CardMerger$Links" "groups" "[I", Cond.methodLink RX3 148 yX0_mineOfAll, Cond.instanceMethod yX0_mineOfAll, Cond.selects RX0 yX0_mineOfAll yX0_mineOfAll, Cond.initialized RX0, Cond.code yX0_mineOfAll cX0_mineOfAll 5 (some .int), Cond.fieldLink RX0 26 "CardMerger$Cards" "count" "I", Cond.static yX3_has, Cond.code yX3_has cX3_has 2 (some .boolean), Cond.methodLink RX0 30 yX0_setOf, Cond.instanceMethod yX0_setOf, Cond.selects RX0 yX0_setOf yX0_setOf, Cond.code yX0_setOf cX0_setOf 4 (some .int), Cond.fieldLink RX0 20 "CardMerger$Cards" "sets" "[[I", Cond.methodLink RX3 81 yX3_has, Cond.methodLink RX3 151 yX3_takeOutOfMine, Cond.instanceMethod yX3_takeOutOfMine]
def wsL_edit_r3 : List Cond := [Cond.selects RX3 yX3_takeOutOfMine yX3_takeOutOfMine, Cond.code yX3_takeOutOfMine cX3_takeOutOfMine 7 (some .int), Cond.methodLink RX3 73 yX0_setOf, Cond.methodLink RX3 77 yX0_putSet, Cond.instanceMethod yX0_putSet, Cond.selects RX0 yX0_putSet yX0_putSet, Cond.code yX0_putSet cX0_putSet 5 none, Cond.fieldLink RX0 23 "CardMerger$Cards" "mineChanges" "[I", Cond.methodLink RX3 145 yX0_preferredOf, Cond.instanceMethod yX0_preferredOf, Cond.selects RX0 yX0_preferredOf yX0_preferredOf, Cond.code yX0_preferredOf cX0_preferredOf 5 (some .int), Cond.methodLink RX0 62 yX0_isAhead, Cond.instanceMethod yX0_isAhead, Cond.selects RX0 yX0_isAhead yX0_isAhead, Cond.code yX0_isAhead cX0_isAhead 3 (some .boolean), Cond.fieldLink RX0 9 "CardMerger$Cards" "books" "[I"]
def wsL_edit : List Cond := .codeWith yL_edit cL_edit 6 (some .int) [(0, 12, 15, 13), (0, 12, 19, 15)] :: ((wsL_edit_r1 ++ (wsL_edit_r2 ++ wsL_edit_r3)) ++ wsX30 ++ wsX00 ++ wsX10 ++ (vx_atS RX3 165 "java/lang/IndexOutOfBoundsException" ["java/lang/RuntimeException", "java/lang/Exception"]).filter goodWord ++ (vx_atS RX3 191 "java/lang/IllegalArgumentException" ["java/lang/RuntimeException", "java/lang/Exception"]).filter goodWord)
def wsL_score_r1 : List Cond := [Cond.classLink RL 13 "java/lang/IndexOutOfBoundsException", Cond.classLink RL 15 "java/lang/IllegalArgumentException", Cond.methodLink RL 65 yX3_score, Cond.instanceMethod yX3_score, Cond.selects RX3 yX3_score yX3_score, Cond.initialized RX3, Cond.code yX3_score cX3_score 3 (some .int), Cond.methodLink RX3 113 yX3_checkTwoCards, Cond.instanceMethod yX3_checkTwoCards, Cond.selects RX3 yX3_checkTwoCards yX3_checkTwoCards, Cond.code yX3_checkTwoCards cX3_checkTwoCards 3 none, Cond.methodLink RX3 61 yX3_checkCard, Cond.instanceMethod yX3_checkCard, Cond.selects RX3 yX3_checkCard yX3_checkCard, Cond.code yX3_checkCard cX3_checkCard 2 none, Cond.classLink RX3 161 "java/lang/IndexOutOfBoundsException", Cond.initialized "java/lang/IndexOutOfBoundsException", Cond.fieldLink RX3 12 "CardMerger" "cards" "LCardMerger$Cards;", Cond.methodLink RX3 42 yX3_checkArgument, Cond.static yX3_checkArgument, Cond.code yX3_checkArgument cX3_checkArgument 1 none, Cond.classLink RX3 187 "java/lang/IllegalArgumentException", Cond.initialized "java/lang/IllegalArgumentException", Cond.methodLink RX3 154 yX3_scoreOf]
def wsL_score_r2 : List Cond := [Cond.instanceMethod yX3_scoreOf, Cond.selects RX3 yX3_scoreOf yX3_scoreOf, Cond.code yX3_scoreOf cX3_scoreOf 5 (some .int), Cond.fieldLink RX3 19 "CardMerger" "links" "LCardMerger$Links;", Cond.methodLink RX3 139 yX1_areTogether, Cond.instanceMethod yX1_areTogether, Cond.selects RX1 yX1_areTogether yX1_areTogether, Cond.initialized RX1, Cond.code yX1_areTogether cX1_areTogether 3 (some .boolean), Cond.fieldLink RX1 15 "CardMerger$Links" "groups" "[I", Cond.static yX3_has, Cond.code yX3_has cX3_has 2 (some .boolean), Cond.methodLink RX3 192 yX0_countShared, Cond.instanceMethod yX0_countShared, Cond.selects RX0 yX0_countShared yX0_countShared, Cond.initialized RX0, Cond.code yX0_countShared cX0_countShared 4 (some .int), Cond.methodLink RX0 30 yX0_setOf, Cond.instanceMethod yX0_setOf, Cond.selects RX0 yX0_setOf yX0_setOf, Cond.code yX0_setOf cX0_setOf 4 (some .int), Cond.fieldLink RX0 20 "CardMerger$Cards" "sets" "[[I", Cond.methodLink RX0 57 yJ6_bitCount_0f7a4, Cond.static yJ6_bitCount_0f7a4]
def wsL_score_r3 : List Cond := [Cond.initialized RJ6, Cond.code yJ6_bitCount_0f7a4 cJ6_bitCount_0f7a4 1 (some .int), Cond.constant RJ6 265 (1431655765), Cond.constant RJ6 266 (858993459), Cond.constant RJ6 267 (252645135), Cond.methodLink RX3 85 yX0_nameIn, Cond.instanceMethod yX0_nameIn, Cond.selects RX0 yX0_nameIn yX0_nameIn, Cond.code yX0_nameIn cX0_nameIn 3 (some .int), Cond.fieldLink RX0 17 "CardMerger$Cards" "names" "[[I"]
def wsL_score : List Cond := .codeWith yL_score cL_score 5 (some .int) [(0, 10, 13, 13), (0, 10, 17, 15)] :: ((wsL_score_r1 ++ (wsL_score_r2 ++ wsL_score_r3)) ++ wsX30 ++ wsX00 ++ wsX10 ++ (vx_atS RX3 165 "java/lang/IndexOutOfBoundsException" ["java/lang/RuntimeException", "java/lang/Exception"]).filter goodWord ++ (vx_atS RX3 191 "java/lang/IllegalArgumentException" ["java/lang/RuntimeException", "java/lang/Exception"]).filter goodWord)
def wsL_pairAt_r1 : List Cond := [Cond.classLink RL 13 "java/lang/IndexOutOfBoundsException", Cond.methodLink RL 68 yX3_pairAt, Cond.instanceMethod yX3_pairAt, Cond.selects RX3 yX3_pairAt yX3_pairAt, Cond.initialized RX3, Cond.code yX3_pairAt cX3_pairAt 5 (some .int), Cond.classLink RX3 161 "java/lang/IndexOutOfBoundsException", Cond.initialized "java/lang/IndexOutOfBoundsException", Cond.fieldLink RX3 30 "CardMerger" "pairsOfScore" "[I", Cond.methodLink RX3 157 yX3_tallyPairs, Cond.instanceMethod yX3_tallyPairs, Cond.selects RX3 yX3_tallyPairs yX3_tallyPairs, Cond.code yX3_tallyPairs cX3_tallyPairs 5 (some .int), Cond.fieldLink RX3 12 "CardMerger" "cards" "LCardMerger$Cards;", Cond.methodLink RX3 169 yX3_suggestedScore, Cond.instanceMethod yX3_suggestedScore, Cond.selects RX3 yX3_suggestedScore yX3_suggestedScore, Cond.code yX3_suggestedScore cX3_suggestedScore 3 (some .int), Cond.fieldLink RX3 26 "CardMerger" "refusals" "LCardMerger$Refusals;", Cond.methodLink RX3 177 yX0_mineChangesOf, Cond.instanceMethod yX0_mineChangesOf, Cond.selects RX0 yX0_mineChangesOf yX0_mineChangesOf, Cond.initialized RX0, Cond.code yX0_mineChangesOf cX0_mineChangesOf 3 (some .int)]
def wsL_pairAt_r2 : List Cond := [Cond.fieldLink RX0 23 "CardMerger$Cards" "mineChanges" "[I", Cond.methodLink RX3 195 yX2_stands, Cond.instanceMethod yX2_stands, Cond.selects RX2 yX2_stands yX2_stands, Cond.initialized RX2, Cond.code yX2_stands cX2_stands 4 (some .boolean), Cond.fieldLink RX2 9 "CardMerger$Refusals" "forGood" "[I", Cond.fieldLink RX2 17 "CardMerger$Refusals" "changesThen" "[[I", Cond.static yX3_has, Cond.code yX3_has cX3_has 2 (some .boolean), Cond.methodLink RX3 154 yX3_scoreOf, Cond.instanceMethod yX3_scoreOf, Cond.selects RX3 yX3_scoreOf yX3_scoreOf, Cond.code yX3_scoreOf cX3_scoreOf 5 (some .int), Cond.fieldLink RX3 19 "CardMerger" "links" "LCardMerger$Links;", Cond.methodLink RX3 139 yX1_areTogether, Cond.instanceMethod yX1_areTogether, Cond.selects RX1 yX1_areTogether yX1_areTogether, Cond.initialized RX1, Cond.code yX1_areTogether cX1_areTogether 3 (some .boolean), Cond.fieldLink RX1 15 "CardMerger$Links" "groups" "[I", Cond.methodLink RX3 192 yX0_countShared, Cond.instanceMethod yX0_countShared, Cond.selects RX0 yX0_countShared yX0_countShared]
def wsL_pairAt_r3 : List Cond := [Cond.code yX0_countShared cX0_countShared 4 (some .int), Cond.methodLink RX0 30 yX0_setOf, Cond.instanceMethod yX0_setOf, Cond.selects RX0 yX0_setOf yX0_setOf, Cond.code yX0_setOf cX0_setOf 4 (some .int), Cond.fieldLink RX0 20 "CardMerger$Cards" "sets" "[[I", Cond.methodLink RX0 57 yJ6_bitCount_0f7a4, Cond.static yJ6_bitCount_0f7a4, Cond.initialized RJ6, Cond.code yJ6_bitCount_0f7a4 cJ6_bitCount_0f7a4 1 (some .int), Cond.constant RJ6 265 (1431655765), Cond.constant RJ6 266 (858993459), Cond.constant RJ6 267 (252645135), Cond.methodLink RX3 85 yX0_nameIn, Cond.instanceMethod yX0_nameIn, Cond.selects RX0 yX0_nameIn yX0_nameIn, Cond.code yX0_nameIn cX0_nameIn 3 (some .int), Cond.fieldLink RX0 17 "CardMerger$Cards" "names" "[[I", Cond.methodLink RX3 166 yX3_pairOfScore, Cond.instanceMethod yX3_pairOfScore, Cond.selects RX3 yX3_pairOfScore yX3_pairOfScore, Cond.code yX3_pairOfScore cX3_pairOfScore 6 (some .int)]
def wsL_pairAt : List Cond := .codeWith yL_pairAt cL_pairAt 4 (some .int) [(0, 9, 12, 13)] :: ((wsL_pairAt_r1 ++ (wsL_pairAt_r2 ++ wsL_pairAt_r3)) ++ wsX30 ++ wsX00 ++ wsX20 ++ wsX10 ++ (vx_atS RX3 165 "java/lang/IndexOutOfBoundsException" ["java/lang/RuntimeException", "java/lang/Exception"]).filter goodWord)
def wsL_turnDown_r1 : List Cond := [Cond.classLink RL 13 "java/lang/IndexOutOfBoundsException", Cond.classLink RL 15 "java/lang/IllegalArgumentException", Cond.classLink RL 17 "java/lang/IllegalStateException", Cond.methodLink RL 71 yX3_turnDown, Cond.instanceMethod yX3_turnDown, Cond.selects RX3 yX3_turnDown yX3_turnDown, Cond.initialized RX3, Cond.code yX3_turnDown cX3_turnDown 4 (some .int), Cond.classLink RX3 50 "java/lang/IllegalStateException", Cond.initialized "java/lang/IllegalStateException", Cond.fieldLink RX3 26 "CardMerger" "refusals" "LCardMerger$Refusals;", Cond.fieldLink RX3 12 "CardMerger" "cards" "LCardMerger$Cards;", Cond.methodLink RX3 113 yX3_checkTwoCards, Cond.instanceMethod yX3_checkTwoCards, Cond.selects RX3 yX3_checkTwoCards yX3_checkTwoCards, Cond.code yX3_checkTwoCards cX3_checkTwoCards 3 none, Cond.methodLink RX3 61 yX3_checkCard, Cond.instanceMethod yX3_checkCard, Cond.selects RX3 yX3_checkCard yX3_checkCard, Cond.code yX3_checkCard cX3_checkCard 2 none, Cond.classLink RX3 161 "java/lang/IndexOutOfBoundsException", Cond.initialized "java/lang/IndexOutOfBoundsException", Cond.methodLink RX3 42 yX3_checkArgument, Cond.static yX3_checkArgument]
def wsL_turnDown_r2 : List Cond := [Cond.code yX3_checkArgument cX3_checkArgument 1 none, Cond.classLink RX3 187 "java/lang/IllegalArgumentException", Cond.initialized "java/lang/IllegalArgumentException", Cond.methodLink RX3 169 yX3_suggestedScore, Cond.instanceMethod yX3_suggestedScore, Cond.selects RX3 yX3_suggestedScore yX3_suggestedScore, Cond.code yX3_suggestedScore cX3_suggestedScore 3 (some .int), Cond.methodLink RX3 177 yX0_mineChangesOf, Cond.instanceMethod yX0_mineChangesOf, Cond.selects RX0 yX0_mineChangesOf yX0_mineChangesOf, Cond.initialized RX0, Cond.code yX0_mineChangesOf cX0_mineChangesOf 3 (some .int), Cond.fieldLink RX0 23 "CardMerger$Cards" "mineChanges" "[I", Cond.methodLink RX3 195 yX2_stands, Cond.instanceMethod yX2_stands, Cond.selects RX2 yX2_stands yX2_stands, Cond.initialized RX2, Cond.code yX2_stands cX2_stands 4 (some .boolean), Cond.fieldLink RX2 9 "CardMerger$Refusals" "forGood" "[I", Cond.fieldLink RX2 17 "CardMerger$Refusals" "changesThen" "[[I", Cond.static yX3_has, Cond.code yX3_has cX3_has 2 (some .boolean), Cond.methodLink RX3 154 yX3_scoreOf, Cond.instanceMethod yX3_scoreOf]
def wsL_turnDown_r3 : List Cond := [Cond.selects RX3 yX3_scoreOf yX3_scoreOf, Cond.code yX3_scoreOf cX3_scoreOf 5 (some .int), Cond.fieldLink RX3 19 "CardMerger" "links" "LCardMerger$Links;", Cond.methodLink RX3 139 yX1_areTogether, Cond.instanceMethod yX1_areTogether, Cond.selects RX1 yX1_areTogether yX1_areTogether, Cond.initialized RX1, Cond.code yX1_areTogether cX1_areTogether 3 (some .boolean), Cond.fieldLink RX1 15 "CardMerger$Links" "groups" "[I", Cond.methodLink RX3 192 yX0_countShared, Cond.instanceMethod yX0_countShared, Cond.selects RX0 yX0_countShared yX0_countShared, Cond.code yX0_countShared cX0_countShared 4 (some .int), Cond.methodLink RX0 30 yX0_setOf, Cond.instanceMethod yX0_setOf, Cond.selects RX0 yX0_setOf yX0_setOf, Cond.code yX0_setOf cX0_setOf 4 (some .int), Cond.fieldLink RX0 20 "CardMerger$Cards" "sets" "[[I", Cond.methodLink RX0 57 yJ6_bitCount_0f7a4, Cond.static yJ6_bitCount_0f7a4, Cond.initialized RJ6, Cond.code yJ6_bitCount_0f7a4 cJ6_bitCount_0f7a4 1 (some .int), Cond.constant RJ6 265 (1431655765), Cond.constant RJ6 266 (858993459)]
def wsL_turnDown_r4 : List Cond := [Cond.constant RJ6 267 (252645135), Cond.methodLink RX3 85 yX0_nameIn, Cond.instanceMethod yX0_nameIn, Cond.selects RX0 yX0_nameIn yX0_nameIn, Cond.code yX0_nameIn cX0_nameIn 3 (some .int), Cond.fieldLink RX0 17 "CardMerger$Cards" "names" "[[I", Cond.methodLink RX3 174 yX2_refuseForGood, Cond.instanceMethod yX2_refuseForGood, Cond.selects RX2 yX2_refuseForGood yX2_refuseForGood, Cond.code yX2_refuseForGood cX2_refuseForGood 3 none, Cond.methodLink RX3 180 yX2_refuseForNow, Cond.instanceMethod yX2_refuseForNow, Cond.selects RX2 yX2_refuseForNow yX2_refuseForNow, Cond.code yX2_refuseForNow cX2_refuseForNow 4 none, Cond.methodLink RX3 157 yX3_tallyPairs, Cond.instanceMethod yX3_tallyPairs, Cond.selects RX3 yX3_tallyPairs yX3_tallyPairs, Cond.code yX3_tallyPairs cX3_tallyPairs 5 (some .int), Cond.fieldLink RX3 30 "CardMerger" "pairsOfScore" "[I"]
def wsL_turnDown : List Cond := .codeWith yL_turnDown cL_turnDown 6 (some .int) [(0, 12, 15, 13), (0, 12, 19, 15), (0, 12, 23, 17)] :: ((wsL_turnDown_r1 ++ (wsL_turnDown_r2 ++ (wsL_turnDown_r3 ++ wsL_turnDown_r4))) ++ wsX30 ++ wsX00 ++ wsX20 ++ wsX10 ++ (vx_atS RX3 54 "java/lang/IllegalStateException" ["java/lang/RuntimeException", "java/lang/Exception"]).filter goodWord ++ (vx_atS RX3 165 "java/lang/IndexOutOfBoundsException" ["java/lang/RuntimeException", "java/lang/Exception"]).filter goodWord ++ (vx_atS RX3 191 "java/lang/IllegalArgumentException" ["java/lang/RuntimeException", "java/lang/Exception"]).filter goodWord)
abbrev vwCl : List vw_C := [(RX0, TX0, 5), (RX1, TX1, 2), (RX2, TX2, 2), (RX3, TX3, 4), (RX4, TX4, 9)]
end
section
def wsL_law0_r1 : List Cond := [Cond.classLink RL 8 RX3, Cond.instantiable RX3 4, Cond.initialized RX3, Cond.classLink RL 76 RX4, Cond.instantiable RX4 9, Cond.initialized RX4, Cond.arrayClass .long, Cond.methodLink RL 75 yX3_init, Cond.instanceMethod yX3_init, Cond.code yX3_init cX3_init 1 none, Cond.methodLink RX3 3 objectInit, Cond.instanceMethod objectInit, Cond.code objectInit ⟨#[0xb1]⟩ 1 none, Cond.classLink RX3 9 RX0, Cond.instantiable RX0 5, Cond.initialized RX0, Cond.fieldLink RX3 12 "CardMerger" "cards" "LCardMerger$Cards;", Cond.classLink RX3 16 RX1, Cond.instantiable RX1 2, Cond.initialized RX1, Cond.fieldLink RX3 19 "CardMerger" "links" "LCardMerger$Links;", Cond.classLink RX3 23 RX2, Cond.instantiable RX2 2, Cond.initialized RX2]
def wsL_law0_r2 : List Cond := [Cond.fieldLink RX3 26 "CardMerger" "refusals" "LCardMerger$Refusals;", Cond.arrayClass .int, Cond.fieldLink RX3 30 "CardMerger" "pairsOfScore" "[I", Cond.methodLink RX3 11 yX0_init, Cond.instanceMethod yX0_init, Cond.code yX0_init cX0_init 1 none, Cond.methodLink RX0 3 objectInit, Cond.fieldLink RX0 9 "CardMerger$Cards" "books" "[I", Cond.classLink RX0 15 "[[I", Cond.fieldLink RX0 17 "CardMerger$Cards" "names" "[[I", Cond.fieldLink RX0 20 "CardMerger$Cards" "sets" "[[I", Cond.fieldLink RX0 23 "CardMerger$Cards" "mineChanges" "[I", Cond.fieldLink RX0 26 "CardMerger$Cards" "count" "I", Cond.methodLink RX3 18 yX1_init, Cond.instanceMethod yX1_init, Cond.code yX1_init cX1_init 2 none, Cond.methodLink RX1 3 objectInit, Cond.fieldLink RX1 9 "CardMerger$Links" "linked" "[I", Cond.fieldLink RX1 15 "CardMerger$Links" "groups" "[I", Cond.methodLink RX3 25 yX2_init, Cond.instanceMethod yX2_init, Cond.code yX2_init cX2_init 3 none, Cond.methodLink RX2 3 objectInit, Cond.fieldLink RX2 9 "CardMerger$Refusals" "forGood" "[I"]
def wsL_law0_r3 : List Cond := [Cond.classLink RX2 15 "[[I", Cond.fieldLink RX2 17 "CardMerger$Refusals" "changesThen" "[[I", Cond.methodLink RL 78 yX4_init, Cond.instanceMethod yX4_init, Cond.code yX4_init cX4_init 1 none, Cond.methodLink RX4 1 objectInit, Cond.fieldLink RX4 7 "CardMergerModel" "book" "[I", Cond.fieldLink RX4 13 "CardMergerModel" "name" "[I", Cond.fieldLink RX4 16 "CardMergerModel" "set" "[I", Cond.fieldLink RX4 19 "CardMergerModel" "links" "[I", Cond.fieldLink RX4 22 "CardMergerModel" "good" "[I", Cond.fieldLink RX4 25 "CardMergerModel" "forNow" "[I", Cond.fieldLink RX4 28 "CardMergerModel" "scores" "[I", Cond.methodLink RL 79 yL_add, Cond.static yL_add, Cond.initialized RL, Cond.codeWith yL_add cL_add 5 (some .int) [(0, 10, 13, 13), (0, 10, 17, 15), (0, 10, 21, 17)], Cond.classLink RL 13 "java/lang/IndexOutOfBoundsException", Cond.classLink RL 15 "java/lang/IllegalArgumentException", Cond.classLink RL 17 "java/lang/IllegalStateException", Cond.methodLink RL 7 yX3_add, Cond.instanceMethod yX3_add, Cond.selects RX3 yX3_add yX3_add, Cond.code yX3_add cX3_add 3 (some .int)]
def wsL_law0_r4 : List Cond := [Cond.classLink RX3 50 "java/lang/IllegalStateException", Cond.initialized "java/lang/IllegalStateException", Cond.methodLink RX3 34 yX3_checkBook, Cond.instanceMethod yX3_checkBook, Cond.selects RX3 yX3_checkBook yX3_checkBook, Cond.code yX3_checkBook cX3_checkBook 2 none, Cond.classLink RX3 161 "java/lang/IndexOutOfBoundsException", Cond.initialized "java/lang/IndexOutOfBoundsException", Cond.methodLink RX3 38 yX3_isName, Cond.static yX3_isName, Cond.code yX3_isName cX3_isName 1 (some .boolean), Cond.methodLink RX3 42 yX3_checkArgument, Cond.static yX3_checkArgument, Cond.code yX3_checkArgument cX3_checkArgument 1 none, Cond.classLink RX3 187 "java/lang/IllegalArgumentException", Cond.initialized "java/lang/IllegalArgumentException", Cond.methodLink RX3 57 yX0_append, Cond.instanceMethod yX0_append, Cond.selects RX0 yX0_append yX0_append, Cond.code yX0_append cX0_append 5 (some .int), Cond.methodLink RL 84 yX4_add, Cond.instanceMethod yX4_add, Cond.selects RX4 yX4_add yX4_add, Cond.code yX4_add cX4_add 4 (some .int)]
def wsL_law0_r5 : List Cond := [Cond.fieldLink RX4 35 "CardMergerModel" "cards" "I", Cond.methodLink RX4 42 yX4_isBook, Cond.static yX4_isBook, Cond.code yX4_isBook cX4_isBook 1 (some .boolean), Cond.methodLink RX4 38 yX4_isIn, Cond.static yX4_isIn, Cond.code yX4_isIn cX4_isIn 3 (some .boolean), Cond.methodLink RX4 46 yX4_isFine, Cond.instanceMethod yX4_isFine, Cond.selects RX4 yX4_isFine yX4_isFine, Cond.code yX4_isFine cX4_isFine 2 (some .boolean), Cond.fieldLink RX4 31 "CardMergerModel" "thrown" "I", Cond.methodLink RL 85 yX4_thrown, Cond.instanceMethod yX4_thrown, Cond.selects RX4 yX4_thrown yX4_thrown, Cond.code yX4_thrown cX4_thrown 1 (some .int), Cond.methodLink RL 89 yL_turn, Cond.static yL_turn, Cond.codeWith yL_turn cL_turn 7 (some .int) [(0, 21, 24, 13), (0, 21, 28, 15)], Cond.methodLink RL 19 yX3_turn, Cond.instanceMethod yX3_turn, Cond.selects RX3 yX3_turn yX3_turn, Cond.code yX3_turn cX3_turn 6 (some .boolean), Cond.methodLink RX3 61 yX3_checkCard]
def wsL_law0_r6 : List Cond := [Cond.instanceMethod yX3_checkCard, Cond.selects RX3 yX3_checkCard yX3_checkCard, Cond.code yX3_checkCard cX3_checkCard 2 none, Cond.methodLink RX3 64 yX3_isChangeable, Cond.static yX3_isChangeable, Cond.code yX3_isChangeable cX3_isChangeable 1 (some .boolean), Cond.methodLink RX3 67 yX3_isKind, Cond.static yX3_isKind, Cond.code yX3_isKind cX3_isKind 1 (some .boolean), Cond.methodLink RX3 70 yX3_isValue, Cond.static yX3_isValue, Cond.code yX3_isValue cX3_isValue 1 (some .boolean), Cond.methodLink RX3 73 yX0_setOf, Cond.instanceMethod yX0_setOf, Cond.selects RX0 yX0_setOf yX0_setOf, Cond.code yX0_setOf cX0_setOf 4 (some .int), Cond.methodLink RX3 77 yX0_putSet, Cond.instanceMethod yX0_putSet, Cond.selects RX0 yX0_putSet yX0_putSet, Cond.code yX0_putSet cX0_putSet 5 none, Cond.methodLink RX0 30 yX0_setOf, Cond.methodLink RX3 81 yX3_has, Cond.static yX3_has, Cond.code yX3_has cX3_has 2 (some .boolean)]
def wsL_law0_r7 : List Cond := [Cond.methodLink RL 92 yX4_turn, Cond.instanceMethod yX4_turn, Cond.selects RX4 yX4_turn yX4_turn, Cond.code yX4_turn cX4_turn 6 (some .boolean), Cond.methodLink RX4 57 yX4_isKind, Cond.static yX4_isKind, Cond.code yX4_isKind cX4_isKind 1 (some .boolean), Cond.methodLink RX4 60 yX4_isCard, Cond.instanceMethod yX4_isCard, Cond.selects RX4 yX4_isCard yX4_isCard, Cond.code yX4_isCard cX4_isCard 2 (some .boolean), Cond.methodLink RX4 49 yX4_at, Cond.static yX4_at, Cond.code yX4_at cX4_at 3 (some .int), Cond.methodLink RX4 63 yX4_sets, Cond.instanceMethod yX4_sets, Cond.selects RX4 yX4_sets yX4_sets, Cond.code yX4_sets cX4_sets 5 none, Cond.methodLink RX4 53 yX4_changes, Cond.instanceMethod yX4_changes, Cond.selects RX4 yX4_changes yX4_changes, Cond.code yX4_changes cX4_changes 3 none, Cond.methodLink RX4 67 yX4_has, Cond.static yX4_has]
def wsL_law0_r8 : List Cond := [Cond.code yX4_has cX4_has 2 (some .boolean), Cond.methodLink RL 93 yL_rename, Cond.static yL_rename, Cond.codeWith yL_rename cL_rename 6 (some .int) [(0, 12, 15, 13), (0, 12, 19, 15)], Cond.methodLink RL 23 yX3_rename, Cond.instanceMethod yX3_rename, Cond.selects RX3 yX3_rename yX3_rename, Cond.code yX3_rename cX3_rename 5 (some .int), Cond.methodLink RX3 85 yX0_nameIn, Cond.instanceMethod yX0_nameIn, Cond.selects RX0 yX0_nameIn yX0_nameIn, Cond.code yX0_nameIn cX0_nameIn 3 (some .int), Cond.methodLink RX3 88 yX0_putName, Cond.instanceMethod yX0_putName, Cond.selects RX0 yX0_putName yX0_putName, Cond.code yX0_putName cX0_putName 4 none, Cond.methodLink RL 96 yX4_rename, Cond.instanceMethod yX4_rename, Cond.selects RX4 yX4_rename yX4_rename, Cond.code yX4_rename cX4_rename 6 (some .int), Cond.methodLink RX4 71 yX4_names, Cond.instanceMethod yX4_names, Cond.selects RX4 yX4_names yX4_names, Cond.code yX4_names cX4_names 4 none]
def wsL_law0_r9 : List Cond := [Cond.methodLink RL 97 yL_sync, Cond.static yL_sync, Cond.codeWith yL_sync cL_sync 4 (some .int) [(0, 9, 12, 13)], Cond.methodLink RL 27 yX3_sync, Cond.instanceMethod yX3_sync, Cond.selects RX3 yX3_sync yX3_sync, Cond.code yX3_sync cX3_sync 4 (some .int), Cond.methodLink RX3 92 yX0_isIn, Cond.instanceMethod yX0_isIn, Cond.selects RX0 yX0_isIn yX0_isIn, Cond.code yX0_isIn cX0_isIn 3 (some .boolean), Cond.methodLink RX3 95 yX0_namesClash, Cond.instanceMethod yX0_namesClash, Cond.selects RX0 yX0_namesClash yX0_namesClash, Cond.code yX0_namesClash cX0_namesClash 5 (some .boolean), Cond.methodLink RX0 38 yX0_nameIn, Cond.methodLink RX3 98 yX0_mergeVersions, Cond.instanceMethod yX0_mergeVersions, Cond.selects RX0 yX0_mergeVersions yX0_mergeVersions, Cond.code yX0_mergeVersions cX0_mergeVersions 6 none, Cond.methodLink RX0 42 yX0_mergedName, Cond.instanceMethod yX0_mergedName, Cond.selects RX0 yX0_mergedName yX0_mergedName, Cond.code yX0_mergedName cX0_mergedName 3 (some .int)]
def wsL_law0_r10 : List Cond := [Cond.methodLink RX0 46 yX0_mergedSet, Cond.instanceMethod yX0_mergedSet, Cond.selects RX0 yX0_mergedSet yX0_mergedSet, Cond.code yX0_mergedSet cX0_mergedSet 6 (some .int), Cond.methodLink RX0 49 yX0_putName, Cond.methodLink RX0 53 yX0_putSet, Cond.methodLink RL 100 yX4_sync, Cond.instanceMethod yX4_sync, Cond.selects RX4 yX4_sync yX4_sync, Cond.code yX4_sync cX4_sync 8 (some .int), Cond.methodLink RX4 75 yX4_clashes, Cond.instanceMethod yX4_clashes, Cond.selects RX4 yX4_clashes yX4_clashes, Cond.code yX4_clashes cX4_clashes 5 (some .boolean), Cond.methodLink RX4 78 yX4_mergedOf, Cond.instanceMethod yX4_mergedOf, Cond.selects RX4 yX4_mergedOf yX4_mergedOf, Cond.code yX4_mergedOf cX4_mergedOf 5 (some .int), Cond.methodLink RX4 82 yX4_mergedName, Cond.instanceMethod yX4_mergedName, Cond.selects RX4 yX4_mergedName yX4_mergedName, Cond.code yX4_mergedName cX4_mergedName 3 (some .int), Cond.methodLink RL 101 yX3_cards, Cond.instanceMethod yX3_cards]
def wsL_law0_r11 : List Cond := [Cond.selects RX3 yX3_cards yX3_cards, Cond.code yX3_cards cX3_cards 1 (some .int), Cond.methodLink RL 104 yX4_cards, Cond.instanceMethod yX4_cards, Cond.selects RX4 yX4_cards yX4_cards, Cond.code yX4_cards cX4_cards 1 (some .int), Cond.methodLink RL 105 yL_values, Cond.static yL_values, Cond.codeWith yL_values cL_values 6 (some .int) [(0, 12, 15, 13), (0, 12, 19, 15)], Cond.methodLink RL 31 yX3_values, Cond.instanceMethod yX3_values, Cond.selects RX3 yX3_values yX3_values, Cond.code yX3_values cX3_values 4 (some .int), Cond.methodLink RX3 101 yX3_isVersion, Cond.static yX3_isVersion, Cond.code yX3_isVersion cX3_isVersion 1 (some .boolean), Cond.methodLink RL 107 yX4_values, Cond.instanceMethod yX4_values, Cond.selects RX4 yX4_values yX4_values, Cond.code yX4_values cX4_values 5 (some .int), Cond.methodLink RL 108 yL_nameOf, Cond.static yL_nameOf, Cond.codeWith yL_nameOf cL_nameOf 5 (some .int) [(0, 10, 13, 13), (0, 10, 17, 15)], Cond.methodLink RL 34 yX3_nameOf]
def wsL_law0_r12 : List Cond := [Cond.instanceMethod yX3_nameOf, Cond.selects RX3 yX3_nameOf yX3_nameOf, Cond.code yX3_nameOf cX3_nameOf 3 (some .int), Cond.methodLink RL 110 yX4_nameOf, Cond.instanceMethod yX4_nameOf, Cond.selects RX4 yX4_nameOf yX4_nameOf, Cond.code yX4_nameOf cX4_nameOf 3 (some .int), Cond.methodLink RL 111 yL_merged, Cond.static yL_merged, Cond.codeWith yL_merged cL_merged 5 (some .int) [(0, 10, 13, 13), (0, 10, 17, 15)], Cond.methodLink RL 37 yX3_merged, Cond.instanceMethod yX3_merged, Cond.selects RX3 yX3_merged yX3_merged, Cond.code yX3_merged cX3_merged 3 (some .int), Cond.methodLink RX3 104 yX0_mergedSet, Cond.methodLink RL 113 yX4_merged, Cond.instanceMethod yX4_merged, Cond.selects RX4 yX4_merged yX4_merged, Cond.code yX4_merged cX4_merged 3 (some .int), Cond.methodLink RL 114 yL_mergedByValues, Cond.static yL_mergedByValues, Cond.codeWith yL_mergedByValues cL_mergedByValues 5 (some .int) [(0, 10, 13, 13), (0, 10, 17, 15)], Cond.methodLink RL 40 yX3_mergedByValues, Cond.instanceMethod yX3_mergedByValues]
def wsL_law0_r13 : List Cond := [Cond.selects RX3 yX3_mergedByValues yX3_mergedByValues, Cond.code yX3_mergedByValues cX3_mergedByValues 3 (some .int), Cond.methodLink RX3 107 yX0_mergedSetByValues, Cond.instanceMethod yX0_mergedSetByValues, Cond.selects RX0 yX0_mergedSetByValues yX0_mergedSetByValues, Cond.code yX0_mergedSetByValues cX0_mergedSetByValues 13 (some .int), Cond.methodLink RL 116 yX4_mergedByValues, Cond.instanceMethod yX4_mergedByValues, Cond.selects RX4 yX4_mergedByValues yX4_mergedByValues, Cond.code yX4_mergedByValues cX4_mergedByValues 3 (some .int), Cond.methodLink RL 117 yL_unsynced, Cond.static yL_unsynced, Cond.codeWith yL_unsynced cL_unsynced 4 (some .int) [(0, 9, 12, 13)], Cond.methodLink RL 43 yX3_unsynced, Cond.instanceMethod yX3_unsynced, Cond.selects RX3 yX3_unsynced yX3_unsynced, Cond.code yX3_unsynced cX3_unsynced 4 (some .int), Cond.methodLink RX3 110 yX0_isSynced, Cond.instanceMethod yX0_isSynced, Cond.selects RX0 yX0_isSynced yX0_isSynced, Cond.code yX0_isSynced cX0_isSynced 6 (some .boolean), Cond.methodLink RL 119 yX4_unsynced, Cond.instanceMethod yX4_unsynced, Cond.selects RX4 yX4_unsynced yX4_unsynced]
def wsL_law0_r14 : List Cond := [Cond.code yX4_unsynced cX4_unsynced 6 (some .int), Cond.methodLink RL 120 yL_link, Cond.static yL_link, Cond.codeWith yL_link cL_link 5 (some .int) [(0, 10, 13, 13), (0, 10, 17, 15), (0, 10, 21, 17)], Cond.methodLink RL 46 yX3_link, Cond.instanceMethod yX3_link, Cond.selects RX3 yX3_link yX3_link, Cond.code yX3_link cX3_link 3 (some .int), Cond.methodLink RX3 113 yX3_checkTwoCards, Cond.instanceMethod yX3_checkTwoCards, Cond.selects RX3 yX3_checkTwoCards yX3_checkTwoCards, Cond.code yX3_checkTwoCards cX3_checkTwoCards 3 none, Cond.methodLink RX3 117 yX1_areLinked, Cond.instanceMethod yX1_areLinked, Cond.selects RX1 yX1_areLinked yX1_areLinked, Cond.code yX1_areLinked cX1_areLinked 3 (some .boolean), Cond.methodLink RX3 122 yX1_connect, Cond.instanceMethod yX1_connect, Cond.selects RX1 yX1_connect yX1_connect, Cond.code yX1_connect cX1_connect 3 none, Cond.methodLink RX1 22 yX1_putGroup, Cond.instanceMethod yX1_putGroup, Cond.selects RX1 yX1_putGroup yX1_putGroup, Cond.code yX1_putGroup cX1_putGroup 3 none]
def wsL_law0_r15 : List Cond := [Cond.methodLink RX3 125 yX1_groupOf, Cond.instanceMethod yX1_groupOf, Cond.selects RX1 yX1_groupOf yX1_groupOf, Cond.code yX1_groupOf cX1_groupOf 2 (some .int), Cond.methodLink RX3 129 yJ6_bitCount_0f7a4, Cond.static yJ6_bitCount_0f7a4, Cond.initialized RJ6, Cond.code yJ6_bitCount_0f7a4 cJ6_bitCount_0f7a4 1 (some .int), Cond.constant RJ6 265 (1431655765), Cond.constant RJ6 266 (858993459), Cond.constant RJ6 267 (252645135), Cond.methodLink RL 122 yX4_link, Cond.instanceMethod yX4_link, Cond.selects RX4 yX4_link yX4_link, Cond.code yX4_link cX4_link 4 (some .int), Cond.methodLink RX4 86 yX4_groupOf, Cond.instanceMethod yX4_groupOf, Cond.selects RX4 yX4_groupOf yX4_groupOf, Cond.code yX4_groupOf cX4_groupOf 5 (some .int), Cond.methodLink RX4 89 yX4_count, Cond.static yX4_count, Cond.code yX4_count cX4_count 3 (some .int), Cond.methodLink RL 123 yL_cut, Cond.static yL_cut]
def wsL_law0_r16 : List Cond := [Cond.codeWith yL_cut cL_cut 5 (some .int) [(0, 17, 20, 13), (0, 17, 24, 17)], Cond.methodLink RL 49 yX3_cut, Cond.instanceMethod yX3_cut, Cond.selects RX3 yX3_cut yX3_cut, Cond.code yX3_cut cX3_cut 3 (some .boolean), Cond.methodLink RX3 136 yX1_disconnect, Cond.instanceMethod yX1_disconnect, Cond.selects RX1 yX1_disconnect yX1_disconnect, Cond.code yX1_disconnect cX1_disconnect 3 none, Cond.methodLink RX1 26 yX1_reachedFrom, Cond.instanceMethod yX1_reachedFrom, Cond.selects RX1 yX1_reachedFrom yX1_reachedFrom, Cond.code yX1_reachedFrom cX1_reachedFrom 4 (some .int), Cond.methodLink RX1 30 yX1_linkedToAny, Cond.instanceMethod yX1_linkedToAny, Cond.selects RX1 yX1_linkedToAny yX1_linkedToAny, Cond.code yX1_linkedToAny cX1_linkedToAny 4 (some .int), Cond.methodLink RX3 139 yX1_areTogether, Cond.instanceMethod yX1_areTogether, Cond.selects RX1 yX1_areTogether yX1_areTogether, Cond.code yX1_areTogether cX1_areTogether 3 (some .boolean), Cond.methodLink RL 125 yX4_cut, Cond.instanceMethod yX4_cut, Cond.selects RX4 yX4_cut yX4_cut]
def wsL_law0_r17 : List Cond := [Cond.code yX4_cut cX4_cut 4 (some .boolean), Cond.methodLink RL 126 yL_group, Cond.static yL_group, Cond.codeWith yL_group cL_group 4 (some .int) [(0, 9, 12, 13)], Cond.methodLink RL 53 yX3_group, Cond.instanceMethod yX3_group, Cond.selects RX3 yX3_group yX3_group, Cond.code yX3_group cX3_group 2 (some .int), Cond.methodLink RL 128 yX4_group, Cond.instanceMethod yX4_group, Cond.selects RX4 yX4_group yX4_group, Cond.code yX4_group cX4_group 2 (some .int), Cond.methodLink RL 129 yX3_groups, Cond.instanceMethod yX3_groups, Cond.selects RX3 yX3_groups yX3_groups, Cond.code yX3_groups cX3_groups 3 (some .int), Cond.methodLink RX3 142 yX1_isLowestOfGroup, Cond.instanceMethod yX1_isLowestOfGroup, Cond.selects RX1 yX1_isLowestOfGroup yX1_isLowestOfGroup, Cond.code yX1_isLowestOfGroup cX1_isLowestOfGroup 3 (some .boolean), Cond.methodLink RL 132 yX4_groups, Cond.instanceMethod yX4_groups, Cond.selects RX4 yX4_groups yX4_groups, Cond.code yX4_groups cX4_groups 3 (some .int)]
def wsL_law0_r18 : List Cond := [Cond.methodLink RL 133 yL_preferred, Cond.static yL_preferred, Cond.codeWith yL_preferred cL_preferred 4 (some .int) [(0, 9, 12, 13)], Cond.methodLink RL 56 yX3_preferred, Cond.instanceMethod yX3_preferred, Cond.selects RX3 yX3_preferred yX3_preferred, Cond.code yX3_preferred cX3_preferred 2 (some .int), Cond.methodLink RX3 145 yX0_preferredOf, Cond.instanceMethod yX0_preferredOf, Cond.selects RX0 yX0_preferredOf yX0_preferredOf, Cond.code yX0_preferredOf cX0_preferredOf 5 (some .int), Cond.methodLink RX0 62 yX0_isAhead, Cond.instanceMethod yX0_isAhead, Cond.selects RX0 yX0_isAhead yX0_isAhead, Cond.code yX0_isAhead cX0_isAhead 3 (some .boolean), Cond.methodLink RL 135 yX4_preferred, Cond.instanceMethod yX4_preferred, Cond.selects RX4 yX4_preferred yX4_preferred, Cond.code yX4_preferred cX4_preferred 2 (some .int), Cond.methodLink RX4 92 yX4_preferredOf, Cond.instanceMethod yX4_preferredOf, Cond.selects RX4 yX4_preferredOf yX4_preferredOf, Cond.code yX4_preferredOf cX4_preferredOf 6 (some .int), Cond.methodLink RL 136 yL_shown]
def wsL_law0_r19 : List Cond := [Cond.static yL_shown, Cond.codeWith yL_shown cL_shown 5 (some .int) [(0, 10, 13, 13), (0, 10, 17, 15)], Cond.methodLink RL 59 yX3_shown, Cond.instanceMethod yX3_shown, Cond.selects RX3 yX3_shown yX3_shown, Cond.code yX3_shown cX3_shown 3 (some .int), Cond.methodLink RX3 148 yX0_mineOfAll, Cond.instanceMethod yX0_mineOfAll, Cond.selects RX0 yX0_mineOfAll yX0_mineOfAll, Cond.code yX0_mineOfAll cX0_mineOfAll 5 (some .int), Cond.methodLink RL 138 yX4_shown, Cond.instanceMethod yX4_shown, Cond.selects RX4 yX4_shown yX4_shown, Cond.code yX4_shown cX4_shown 3 (some .int), Cond.methodLink RX4 95 yX4_shownOf, Cond.instanceMethod yX4_shownOf, Cond.selects RX4 yX4_shownOf yX4_shownOf, Cond.code yX4_shownOf cX4_shownOf 6 (some .int), Cond.methodLink RL 139 yL_edit, Cond.static yL_edit, Cond.codeWith yL_edit cL_edit 6 (some .int) [(0, 12, 15, 13), (0, 12, 19, 15)], Cond.methodLink RL 62 yX3_edit, Cond.instanceMethod yX3_edit, Cond.selects RX3 yX3_edit yX3_edit]
def wsL_law0_r20 : List Cond := [Cond.code yX3_edit cX3_edit 6 (some .int), Cond.methodLink RX3 151 yX3_takeOutOfMine, Cond.instanceMethod yX3_takeOutOfMine, Cond.selects RX3 yX3_takeOutOfMine yX3_takeOutOfMine, Cond.code yX3_takeOutOfMine cX3_takeOutOfMine 7 (some .int), Cond.methodLink RL 141 yX4_edit, Cond.instanceMethod yX4_edit, Cond.selects RX4 yX4_edit yX4_edit, Cond.code yX4_edit cX4_edit 8 (some .int), Cond.methodLink RL 142 yL_score, Cond.static yL_score, Cond.codeWith yL_score cL_score 5 (some .int) [(0, 10, 13, 13), (0, 10, 17, 15)], Cond.methodLink RL 65 yX3_score, Cond.instanceMethod yX3_score, Cond.selects RX3 yX3_score yX3_score, Cond.code yX3_score cX3_score 3 (some .int), Cond.methodLink RX3 154 yX3_scoreOf, Cond.instanceMethod yX3_scoreOf, Cond.selects RX3 yX3_scoreOf yX3_scoreOf, Cond.code yX3_scoreOf cX3_scoreOf 5 (some .int), Cond.methodLink RX3 192 yX0_countShared, Cond.instanceMethod yX0_countShared, Cond.selects RX0 yX0_countShared yX0_countShared, Cond.code yX0_countShared cX0_countShared 4 (some .int)]
def wsL_law0_r21 : List Cond := [Cond.methodLink RX0 57 yJ6_bitCount_0f7a4, Cond.methodLink RL 144 yX4_score, Cond.instanceMethod yX4_score, Cond.selects RX4 yX4_score yX4_score, Cond.code yX4_score cX4_score 4 (some .int), Cond.methodLink RX4 101 yX4_scoreOf, Cond.instanceMethod yX4_scoreOf, Cond.selects RX4 yX4_scoreOf yX4_scoreOf, Cond.code yX4_scoreOf cX4_scoreOf 3 (some .int), Cond.methodLink RX4 98 yX4_alike, Cond.instanceMethod yX4_alike, Cond.selects RX4 yX4_alike yX4_alike, Cond.code yX4_alike cX4_alike 5 (some .int), Cond.methodLink RL 145 yX3_pairs, Cond.instanceMethod yX3_pairs, Cond.selects RX3 yX3_pairs yX3_pairs, Cond.code yX3_pairs cX3_pairs 1 (some .int), Cond.methodLink RX3 157 yX3_tallyPairs, Cond.instanceMethod yX3_tallyPairs, Cond.selects RX3 yX3_tallyPairs yX3_tallyPairs, Cond.code yX3_tallyPairs cX3_tallyPairs 5 (some .int), Cond.methodLink RX3 169 yX3_suggestedScore, Cond.instanceMethod yX3_suggestedScore, Cond.selects RX3 yX3_suggestedScore yX3_suggestedScore]
def wsL_law0_r22 : List Cond := [Cond.code yX3_suggestedScore cX3_suggestedScore 3 (some .int), Cond.methodLink RX3 177 yX0_mineChangesOf, Cond.instanceMethod yX0_mineChangesOf, Cond.selects RX0 yX0_mineChangesOf yX0_mineChangesOf, Cond.code yX0_mineChangesOf cX0_mineChangesOf 3 (some .int), Cond.methodLink RX3 195 yX2_stands, Cond.instanceMethod yX2_stands, Cond.selects RX2 yX2_stands yX2_stands, Cond.code yX2_stands cX2_stands 4 (some .boolean), Cond.methodLink RL 148 yX4_pairs, Cond.instanceMethod yX4_pairs, Cond.selects RX4 yX4_pairs yX4_pairs, Cond.code yX4_pairs cX4_pairs 1 (some .int), Cond.methodLink RX4 104 yX4_finds, Cond.instanceMethod yX4_finds, Cond.selects RX4 yX4_finds yX4_finds, Cond.code yX4_finds cX4_finds 6 (some .int), Cond.methodLink RL 149 yL_pairAt, Cond.static yL_pairAt, Cond.codeWith yL_pairAt cL_pairAt 4 (some .int) [(0, 9, 12, 13)], Cond.methodLink RL 68 yX3_pairAt, Cond.instanceMethod yX3_pairAt, Cond.selects RX3 yX3_pairAt yX3_pairAt, Cond.code yX3_pairAt cX3_pairAt 5 (some .int)]
def wsL_law0_r23 : List Cond := [Cond.methodLink RX3 166 yX3_pairOfScore, Cond.instanceMethod yX3_pairOfScore, Cond.selects RX3 yX3_pairOfScore yX3_pairOfScore, Cond.code yX3_pairOfScore cX3_pairOfScore 6 (some .int), Cond.methodLink RL 151 yX4_pairAt, Cond.instanceMethod yX4_pairAt, Cond.selects RX4 yX4_pairAt yX4_pairAt, Cond.code yX4_pairAt cX4_pairAt 7 (some .int), Cond.methodLink RL 152 yL_turnDown, Cond.static yL_turnDown, Cond.codeWith yL_turnDown cL_turnDown 6 (some .int) [(0, 12, 15, 13), (0, 12, 19, 15), (0, 12, 23, 17)], Cond.methodLink RL 71 yX3_turnDown, Cond.instanceMethod yX3_turnDown, Cond.selects RX3 yX3_turnDown yX3_turnDown, Cond.code yX3_turnDown cX3_turnDown 4 (some .int), Cond.methodLink RX3 174 yX2_refuseForGood, Cond.instanceMethod yX2_refuseForGood, Cond.selects RX2 yX2_refuseForGood yX2_refuseForGood, Cond.code yX2_refuseForGood cX2_refuseForGood 3 none, Cond.methodLink RX3 180 yX2_refuseForNow, Cond.instanceMethod yX2_refuseForNow, Cond.selects RX2 yX2_refuseForNow yX2_refuseForNow, Cond.code yX2_refuseForNow cX2_refuseForNow 4 none, Cond.methodLink RL 155 yX4_turnDown]
def wsL_law0_r24 : List Cond := [Cond.instanceMethod yX4_turnDown, Cond.selects RX4 yX4_turnDown yX4_turnDown, Cond.code yX4_turnDown cX4_turnDown 5 (some .int), Cond.methodLink RX4 108 yX4_isSuggested, Cond.instanceMethod yX4_isSuggested, Cond.selects RX4 yX4_isSuggested yX4_isSuggested, Cond.code yX4_isSuggested cX4_isSuggested 3 (some .boolean)]
def wsL_law0 : List Cond := (wsL_law0_r1 ++ (wsL_law0_r2 ++ (wsL_law0_r3 ++ (wsL_law0_r4 ++ (wsL_law0_r5 ++ (wsL_law0_r6 ++ (wsL_law0_r7 ++ (wsL_law0_r8 ++ (wsL_law0_r9 ++ (wsL_law0_r10 ++ (wsL_law0_r11 ++ (wsL_law0_r12 ++ (wsL_law0_r13 ++ (wsL_law0_r14 ++ (wsL_law0_r15 ++ (wsL_law0_r16 ++ (wsL_law0_r17 ++ (wsL_law0_r18 ++ (wsL_law0_r19 ++ (wsL_law0_r20 ++ (wsL_law0_r21 ++ (wsL_law0_r22 ++ (wsL_law0_r23 ++ wsL_law0_r24))))))))))))))))))))))) ++ wsX30 ++ wsX40 ++ wsX00 ++ wsX10 ++ wsX20 ++ ([] : List Cond)
def wsL_law : List Cond := wsL_law0 ++ (vx_atS RX3 54 "java/lang/IllegalStateException" ["java/lang/RuntimeException", "java/lang/Exception"]).filter goodWord ++ (vx_atS RX3 165 "java/lang/IndexOutOfBoundsException" ["java/lang/RuntimeException", "java/lang/Exception"]).filter goodWord ++ (vx_atS RX3 191 "java/lang/IllegalArgumentException" ["java/lang/RuntimeException", "java/lang/Exception"]).filter goodWord
set_option maxRecDepth 20000 in
set_option maxRecDepth 20000 in
theorem wsL_law0_r1_in : ∀ w ∈ wsL_law0_r1, w ∈ lw_tbl := fun w h => (goodIn_r wsL_law0_r1 [41, 42, 29, 545, 546, 33, 745, 43, 44, 45, 46, 47, 48, 49, 50, 30, 102, 75, 76, 31, 103, 88, 89, 32] (by decide +kernel) (by decide +kernel) w h).1
set_option maxRecDepth 20000 in
theorem wsL_law0_r2_in : ∀ w ∈ wsL_law0_r2, w ∈ lw_tbl := fun w h => (goodIn_r wsL_law0_r2 [104, 74, 105, 51, 52, 53, 54, 57, 55, 58, 59, 60, 61, 77, 78, 79, 80, 81, 82, 90, 91, 92, 93, 95] (by decide +kernel) (by decide +kernel) w h).1
set_option maxRecDepth 20000 in
theorem wsL_law0_r3_in : ∀ w ∈ wsL_law0_r3, w ∈ lw_tbl := fun w h => (goodIn_r wsL_law0_r3 [94, 96, 547, 548, 549, 550, 552, 553, 554, 555, 556, 557, 559, 177, 178, 28, 179, 180, 181, 182, 183, 184, 185, 186] (by decide +kernel) (by decide +kernel) w h).1
set_option maxRecDepth 20000 in
theorem wsL_law0_r4_in : ∀ w ∈ wsL_law0_r4, w ∈ lw_tbl := fun w h => (goodIn_r wsL_law0_r4 [281, 39, 187, 189, 3, 190, 191, 37, 259, 260, 261, 262, 263, 264, 265, 38, 297, 298, 299, 300, 583, 584, 585, 586] (by decide +kernel) (by decide +kernel) w h).1
set_option maxRecDepth 20000 in
theorem wsL_law0_r5_in : ∀ w ∈ wsL_law0_r5, w ∈ lw_tbl := fun w h => (goodIn_r wsL_law0_r5 [558, 587, 588, 589, 590, 591, 592, 593, 595, 13, 596, 551, 579, 580, 581, 582, 301, 302, 303, 304, 305, 306, 307, 308] (by decide +kernel) (by decide +kernel) w h).1
set_option maxRecDepth 20000 in
theorem wsL_law0_r6_in : ∀ w ∈ wsL_law0_r6, w ∈ lw_tbl := fun w h => (goodIn_r wsL_law0_r6 [310, 5, 311, 313, 314, 315, 316, 317, 318, 319, 320, 321, 322, 164, 165, 166, 323, 324, 325, 326, 163, 327, 148, 149] (by decide +kernel) (by decide +kernel) w h).1
set_option maxRecDepth 20000 in
theorem wsL_law0_r7_in : ∀ w ∈ wsL_law0_r7, w ∈ lw_tbl := fun w h => (goodIn_r wsL_law0_r7 [597, 598, 599, 600, 601, 602, 603, 604, 606, 14, 607, 608, 609, 610, 611, 613, 15, 614, 615, 617, 16, 618, 619, 620] (by decide +kernel) (by decide +kernel) w h).1
set_option maxRecDepth 20000 in
theorem wsL_law0_r8_in : ∀ w ∈ wsL_law0_r8, w ∈ lw_tbl := fun w h => (goodIn_r wsL_law0_r8 [621, 328, 329, 330, 331, 332, 333, 334, 173, 174, 175, 176, 335, 336, 337, 338, 622, 623, 624, 625, 626, 628, 17, 629] (by decide +kernel) (by decide +kernel) w h).1
set_option maxRecDepth 20000 in
theorem wsL_law0_r9_in : ∀ w ∈ wsL_law0_r9, w ∈ lw_tbl := fun w h => (goodIn_r wsL_law0_r9 [339, 340, 341, 342, 343, 344, 345, 346, 347, 348, 349, 350, 351, 352, 353, 354, 355, 356, 357, 358, 359, 360, 361, 362] (by decide +kernel) (by decide +kernel) w h).1
set_option maxRecDepth 20000 in
theorem wsL_law0_r10_in : ∀ w ∈ wsL_law0_r10, w ∈ lw_tbl := fun w h => (goodIn_r wsL_law0_r10 [363, 364, 365, 366, 367, 368, 630, 631, 632, 633, 634, 636, 18, 637, 638, 640, 19, 641, 642, 644, 20, 645, 115, 116] (by decide +kernel) (by decide +kernel) w h).1
set_option maxRecDepth 20000 in
theorem wsL_law0_r11_in : ∀ w ∈ wsL_law0_r11, w ∈ lw_tbl := fun w h => (goodIn_r wsL_law0_r11 [117, 118, 646, 647, 648, 649, 369, 370, 371, 372, 373, 374, 375, 376, 377, 378, 650, 651, 652, 653, 379, 380, 381, 382] (by decide +kernel) (by decide +kernel) w h).1
set_option maxRecDepth 20000 in
theorem wsL_law0_r12_in : ∀ w ∈ wsL_law0_r12, w ∈ lw_tbl := fun w h => (goodIn_r wsL_law0_r12 [383, 384, 385, 654, 655, 656, 657, 386, 387, 388, 389, 390, 391, 392, 393, 658, 659, 660, 661, 394, 395, 396, 397, 398] (by decide +kernel) (by decide +kernel) w h).1
set_option maxRecDepth 20000 in
theorem wsL_law0_r13_in : ∀ w ∈ wsL_law0_r13, w ∈ lw_tbl := fun w h => (goodIn_r wsL_law0_r13 [399, 400, 401, 402, 403, 404, 662, 663, 664, 665, 406, 407, 408, 409, 410, 411, 412, 413, 414, 415, 416, 666, 667, 668] (by decide +kernel) (by decide +kernel) w h).1
set_option maxRecDepth 20000 in
theorem wsL_law0_r14_in : ∀ w ∈ wsL_law0_r14, w ∈ lw_tbl := fun w h => (goodIn_r wsL_law0_r14 [669, 417, 418, 419, 420, 421, 422, 423, 424, 426, 6, 427, 428, 429, 430, 431, 433, 434, 435, 436, 437, 439, 7, 440] (by decide +kernel) (by decide +kernel) w h).1
set_option maxRecDepth 20000 in
theorem wsL_law0_r15_in : ∀ w ∈ wsL_law0_r15, w ∈ lw_tbl := fun w h => (goodIn_r wsL_law0_r15 [441, 442, 443, 444, 445, 168, 40, 169, 170, 171, 172, 670, 671, 672, 673, 674, 676, 21, 677, 678, 679, 680, 446, 447] (by decide +kernel) (by decide +kernel) w h).1
set_option maxRecDepth 20000 in
theorem wsL_law0_r16_in : ∀ w ∈ wsL_law0_r16, w ∈ lw_tbl := fun w h => (goodIn_r wsL_law0_r16 [448, 449, 450, 451, 452, 454, 455, 456, 457, 458, 460, 8, 461, 462, 464, 9, 465, 154, 155, 156, 157, 681, 682, 683] (by decide +kernel) (by decide +kernel) w h).1
set_option maxRecDepth 20000 in
theorem wsL_law0_r17_in : ∀ w ∈ wsL_law0_r17, w ∈ lw_tbl := fun w h => (goodIn_r wsL_law0_r17 [684, 466, 467, 468, 469, 470, 471, 472, 685, 686, 687, 688, 119, 120, 121, 122, 123, 124, 125, 126, 689, 690, 691, 692] (by decide +kernel) (by decide +kernel) w h).1
set_option maxRecDepth 20000 in
theorem wsL_law0_r18_in : ∀ w ∈ wsL_law0_r18, w ∈ lw_tbl := fun w h => (goodIn_r wsL_law0_r18 [473, 474, 475, 476, 477, 478, 479, 480, 481, 482, 483, 484, 486, 10, 487, 693, 694, 695, 696, 697, 699, 22, 700, 488] (by decide +kernel) (by decide +kernel) w h).1
set_option maxRecDepth 20000 in
theorem wsL_law0_r19_in : ∀ w ∈ wsL_law0_r19, w ∈ lw_tbl := fun w h => (goodIn_r wsL_law0_r19 [489, 490, 491, 492, 493, 494, 495, 496, 497, 498, 701, 702, 703, 704, 705, 707, 23, 708, 499, 500, 501, 502, 503, 504] (by decide +kernel) (by decide +kernel) w h).1
set_option maxRecDepth 20000 in
theorem wsL_law0_r20_in : ∀ w ∈ wsL_law0_r20, w ∈ lw_tbl := fun w h => (goodIn_r wsL_law0_r20 [505, 506, 508, 11, 509, 709, 710, 711, 712, 510, 511, 512, 513, 514, 515, 516, 150, 152, 2, 153, 159, 160, 161, 162] (by decide +kernel) (by decide +kernel) w h).1
set_option maxRecDepth 20000 in
theorem wsL_law0_r21_in : ∀ w ∈ wsL_law0_r21, w ∈ lw_tbl := fun w h => (goodIn_r wsL_law0_r21 [167, 713, 714, 715, 716, 717, 719, 24, 720, 721, 723, 25, 724, 127, 128, 129, 130, 131, 133, 0, 134, 135, 137, 1] (by decide +kernel) (by decide +kernel) w h).1
set_option maxRecDepth 20000 in
theorem wsL_law0_r22_in : ∀ w ∈ wsL_law0_r22, w ∈ lw_tbl := fun w h => (goodIn_r wsL_law0_r22 [138, 139, 140, 141, 142, 143, 144, 145, 146, 725, 726, 727, 728, 729, 731, 26, 732, 517, 518, 519, 520, 521, 522, 523] (by decide +kernel) (by decide +kernel) w h).1
set_option maxRecDepth 20000 in
theorem wsL_law0_r23_in : ∀ w ∈ wsL_law0_r23, w ∈ lw_tbl := fun w h => (goodIn_r wsL_law0_r23 [525, 527, 12, 528, 733, 734, 735, 736, 529, 530, 531, 532, 533, 534, 535, 537, 538, 539, 540, 541, 542, 543, 544, 737] (by decide +kernel) (by decide +kernel) w h).1
set_option maxRecDepth 20000 in
theorem wsL_law0_r24_in : ∀ w ∈ wsL_law0_r24, w ∈ lw_tbl := fun w h => (goodIn_r wsL_law0_r24 [738, 739, 740, 741, 743, 27, 744] (by decide +kernel) (by decide +kernel) w h).1
theorem qX3_in : ∀ w ∈ wsX30, w ∈ lw_tbl := by decide +kernel
theorem qX4_in : ∀ w ∈ wsX40, w ∈ lw_tbl := by decide +kernel
theorem qX0_in : ∀ w ∈ wsX00, w ∈ lw_tbl := by decide +kernel
theorem qX1_in : ∀ w ∈ wsX10, w ∈ lw_tbl := by decide +kernel
theorem qX2_in : ∀ w ∈ wsX20, w ∈ lw_tbl := by decide +kernel
theorem wsL_law_in0 : ∀ w ∈ wsL_law0, w ∈ lw_tbl := fun w => fun h => (List.mem_append.mp h).elim (fun h => (List.mem_append.mp h).elim (fun h => (List.mem_append.mp h).elim (fun h => (List.mem_append.mp h).elim (fun h => (List.mem_append.mp h).elim (fun h => (List.mem_append.mp h).elim (fun h => (List.mem_append.mp h).elim (fun h => wsL_law0_r1_in w h) (fun h => (List.mem_append.mp h).elim (fun h => wsL_law0_r2_in w h) (fun h => (List.mem_append.mp h).elim (fun h => wsL_law0_r3_in w h) (fun h => (List.mem_append.mp h).elim (fun h => wsL_law0_r4_in w h) (fun h => (List.mem_append.mp h).elim (fun h => wsL_law0_r5_in w h) (fun h => (List.mem_append.mp h).elim (fun h => wsL_law0_r6_in w h) (fun h => (List.mem_append.mp h).elim (fun h => wsL_law0_r7_in w h) (fun h => (List.mem_append.mp h).elim (fun h => wsL_law0_r8_in w h) (fun h => (List.mem_append.mp h).elim (fun h => wsL_law0_r9_in w h) (fun h => (List.mem_append.mp h).elim (fun h => wsL_law0_r10_in w h) (fun h => (List.mem_append.mp h).elim (fun h => wsL_law0_r11_in w h) (fun h => (List.mem_append.mp h).elim (fun h => wsL_law0_r12_in w h) (fun h => (List.mem_append.mp h).elim (fun h => wsL_law0_r13_in w h) (fun h => (List.mem_append.mp h).elim (fun h => wsL_law0_r14_in w h) (fun h => (List.mem_append.mp h).elim (fun h => wsL_law0_r15_in w h) (fun h => (List.mem_append.mp h).elim (fun h => wsL_law0_r16_in w h) (fun h => (List.mem_append.mp h).elim (fun h => wsL_law0_r17_in w h) (fun h => (List.mem_append.mp h).elim (fun h => wsL_law0_r18_in w h) (fun h => (List.mem_append.mp h).elim (fun h => wsL_law0_r19_in w h) (fun h => (List.mem_append.mp h).elim (fun h => wsL_law0_r20_in w h) (fun h => (List.mem_append.mp h).elim (fun h => wsL_law0_r21_in w h) (fun h => (List.mem_append.mp h).elim (fun h => wsL_law0_r22_in w h) (fun h => (List.mem_append.mp h).elim (fun h => wsL_law0_r23_in w h) (fun h => wsL_law0_r24_in w h)))))))))))))))))))))))) (fun h => qX3_in w h)) (fun h => qX4_in w h)) (fun h => qX0_in w h)) (fun h => qX1_in w h)) (fun h => qX2_in w h)) (fun h => nomatch h)
theorem wsL_law_x0 : ∀ w ∈ (vx_atS RX3 54 "java/lang/IllegalStateException" ["java/lang/RuntimeException", "java/lang/Exception"]).filter goodWord, w ∈ lw_tbl := by decide +kernel
theorem wsL_law_x1 : ∀ w ∈ (vx_atS RX3 165 "java/lang/IndexOutOfBoundsException" ["java/lang/RuntimeException", "java/lang/Exception"]).filter goodWord, w ∈ lw_tbl := by decide +kernel
theorem wsL_law_x2 : ∀ w ∈ (vx_atS RX3 191 "java/lang/IllegalArgumentException" ["java/lang/RuntimeException", "java/lang/Exception"]).filter goodWord, w ∈ lw_tbl := by decide +kernel
theorem wsL_law_in : ∀ w ∈ wsL_law, w ∈ lw_tbl := fun w h => (List.mem_append.mp h).elim (fun h => (List.mem_append.mp h).elim (fun h => (List.mem_append.mp h).elim (fun h => wsL_law_in0 w h) (fun h => wsL_law_x0 w h)) (fun h => wsL_law_x1 w h)) (fun h => wsL_law_x2 w h)
theorem inlX0 : ∀ w ∈ wsX00, w ∈ wsL_law := fun _ h => List.mem_append_left _ (List.mem_append_left _ (List.mem_append_left _ (List.mem_append_left _ (List.mem_append_left _ (List.mem_append_left _ (List.mem_append_right _ h))))))
theorem inX0 : ∀ w ∈ wsX00, w ∈ lw_tbl := fun w h => wsL_law_in w (inlX0 w h)
theorem inlX1 : ∀ w ∈ wsX10, w ∈ wsL_law := fun _ h => List.mem_append_left _ (List.mem_append_left _ (List.mem_append_left _ (List.mem_append_left _ (List.mem_append_left _ (List.mem_append_right _ h)))))
theorem inX1 : ∀ w ∈ wsX10, w ∈ lw_tbl := fun w h => wsL_law_in w (inlX1 w h)
theorem inlX2 : ∀ w ∈ wsX20, w ∈ wsL_law := fun _ h => List.mem_append_left _ (List.mem_append_left _ (List.mem_append_left _ (List.mem_append_left _ (List.mem_append_right _ h))))
theorem inX2 : ∀ w ∈ wsX20, w ∈ lw_tbl := fun w h => wsL_law_in w (inlX2 w h)
theorem inlX3 : ∀ w ∈ wsX30, w ∈ wsL_law := fun _ h => List.mem_append_left _ (List.mem_append_left _ (List.mem_append_left _ (List.mem_append_left _ (List.mem_append_left _ (List.mem_append_left _ (List.mem_append_left _ (List.mem_append_left _ (List.mem_append_right _ h))))))))
theorem inX3 : ∀ w ∈ wsX30, w ∈ lw_tbl := fun w h => wsL_law_in w (inlX3 w h)
theorem inlX4 : ∀ w ∈ wsX40, w ∈ wsL_law := fun _ h => List.mem_append_left _ (List.mem_append_left _ (List.mem_append_left _ (List.mem_append_left _ (List.mem_append_left _ (List.mem_append_left _ (List.mem_append_left _ (List.mem_append_right _ h)))))))
theorem inX4 : ∀ w ∈ wsX40, w ∈ lw_tbl := fun w h => wsL_law_in w (inlX4 w h)
end
section
theorem inJ6 : ∀ w ∈ wsJ60, w ∈ lw_tbl := by decide +kernel
theorem inJ0 : ∀ w ∈ wsJ00, w ∈ lw_tbl := by decide +kernel
theorem dX0_init_0 : decode cX0_init 0 = .ok (.aload_n 0, 1) := by decide +kernel
theorem dX0_init_1 : decode cX0_init 1 = .ok (.invokespecial 3, 3) := by decide +kernel
theorem dX0_init_4 : decode cX0_init 4 = .ok (.aload_n 0, 1) := by decide +kernel
theorem dX0_init_5 : decode cX0_init 5 = .ok (.bipush 24, 2) := by decide +kernel
theorem dX0_init_7 : decode cX0_init 7 = .ok (.newarray .int, 2) := by decide +kernel
theorem dX0_init_9 : decode cX0_init 9 = .ok (.putfield 9, 3) := by decide +kernel
theorem dX0_init_12 : decode cX0_init 12 = .ok (.aload_n 0, 1) := by decide +kernel
theorem dX0_init_13 : decode cX0_init 13 = .ok (.iconst 3, 1) := by decide +kernel
theorem dX0_init_14 : decode cX0_init 14 = .ok (.bipush 24, 2) := by decide +kernel
theorem dX0_init_16 : decode cX0_init 16 = .ok (.multianewarray 15 2, 4) := by decide +kernel
theorem dX0_init_20 : decode cX0_init 20 = .ok (.putfield 17, 3) := by decide +kernel
theorem dX0_init_23 : decode cX0_init 23 = .ok (.aload_n 0, 1) := by decide +kernel
theorem dX0_init_24 : decode cX0_init 24 = .ok (.bipush 6, 2) := by decide +kernel
theorem dX0_init_26 : decode cX0_init 26 = .ok (.bipush 24, 2) := by decide +kernel
theorem dX0_init_28 : decode cX0_init 28 = .ok (.multianewarray 15 2, 4) := by decide +kernel
theorem dX0_init_32 : decode cX0_init 32 = .ok (.putfield 20, 3) := by decide +kernel
theorem dX0_init_35 : decode cX0_init 35 = .ok (.aload_n 0, 1) := by decide +kernel
theorem dX0_init_36 : decode cX0_init 36 = .ok (.bipush 24, 2) := by decide +kernel
theorem dX0_init_38 : decode cX0_init 38 = .ok (.newarray .int, 2) := by decide +kernel
theorem dX0_init_40 : decode cX0_init 40 = .ok (.putfield 23, 3) := by decide +kernel
theorem dX0_init_43 : decode cX0_init 43 = .ok (.aload_n 0, 1) := by decide +kernel
theorem dX0_init_44 : decode cX0_init 44 = .ok (.iconst 0, 1) := by decide +kernel
theorem dX0_init_45 : decode cX0_init 45 = .ok (.putfield 26, 3) := by decide +kernel
theorem dX0_init_48 : decode cX0_init 48 = .ok (.return_, 1) := by decide +kernel
theorem dX0_append_0 : decode cX0_append 0 = .ok (.aload_n 0, 1) := by decide +kernel
theorem dX0_append_1 : decode cX0_append 1 = .ok (.getfield 26, 3) := by decide +kernel
theorem dX0_append_4 : decode cX0_append 4 = .ok (.istore_n 3, 1) := by decide +kernel
theorem dX0_append_5 : decode cX0_append 5 = .ok (.aload_n 0, 1) := by decide +kernel
theorem dX0_append_6 : decode cX0_append 6 = .ok (.getfield 9, 3) := by decide +kernel
theorem dX0_append_9 : decode cX0_append 9 = .ok (.iload_n 3, 1) := by decide +kernel
theorem dX0_append_10 : decode cX0_append 10 = .ok (.iload_n 1, 1) := by decide +kernel
theorem dX0_append_11 : decode cX0_append 11 = .ok (.iastore, 1) := by decide +kernel
theorem dX0_append_12 : decode cX0_append 12 = .ok (.iconst 0, 1) := by decide +kernel
theorem dX0_append_13 : decode cX0_append 13 = .ok (.istore 4, 2) := by decide +kernel
theorem dX0_append_15 : decode cX0_append 15 = .ok (.iload 4, 2) := by decide +kernel
theorem dX0_append_17 : decode cX0_append 17 = .ok (.iconst 3, 1) := by decide +kernel
theorem dX0_append_18 : decode cX0_append 18 = .ok (.if_icmp .ge 19, 3) := by decide +kernel
theorem dX0_append_21 : decode cX0_append 21 = .ok (.aload_n 0, 1) := by decide +kernel
theorem dX0_append_22 : decode cX0_append 22 = .ok (.getfield 17, 3) := by decide +kernel
theorem dX0_append_25 : decode cX0_append 25 = .ok (.iload 4, 2) := by decide +kernel
theorem dX0_append_27 : decode cX0_append 27 = .ok (.aaload, 1) := by decide +kernel
theorem dX0_append_28 : decode cX0_append 28 = .ok (.iload_n 3, 1) := by decide +kernel
theorem dX0_append_29 : decode cX0_append 29 = .ok (.iload_n 2, 1) := by decide +kernel
theorem dX0_append_30 : decode cX0_append 30 = .ok (.iastore, 1) := by decide +kernel
theorem dX0_append_31 : decode cX0_append 31 = .ok (.iinc 4 1, 3) := by decide +kernel
theorem dX0_append_34 : decode cX0_append 34 = .ok (.goto (-19), 3) := by decide +kernel
theorem dX0_append_37 : decode cX0_append 37 = .ok (.aload_n 0, 1) := by decide +kernel
theorem dX0_append_38 : decode cX0_append 38 = .ok (.dup, 1) := by decide +kernel
theorem dX0_append_39 : decode cX0_append 39 = .ok (.getfield 26, 3) := by decide +kernel
theorem dX0_append_42 : decode cX0_append 42 = .ok (.iconst 1, 1) := by decide +kernel
theorem dX0_append_43 : decode cX0_append 43 = .ok (.iadd, 1) := by decide +kernel
theorem dX0_append_44 : decode cX0_append 44 = .ok (.putfield 26, 3) := by decide +kernel
theorem dX0_append_47 : decode cX0_append 47 = .ok (.iload_n 3, 1) := by decide +kernel
theorem dX0_append_48 : decode cX0_append 48 = .ok (.ireturn, 1) := by decide +kernel
theorem dX0_isIn_0 : decode cX0_isIn 0 = .ok (.aload_n 0, 1) := by decide +kernel
theorem dX0_isIn_1 : decode cX0_isIn 1 = .ok (.getfield 9, 3) := by decide +kernel
theorem dX0_isIn_4 : decode cX0_isIn 4 = .ok (.iload_n 1, 1) := by decide +kernel
theorem dX0_isIn_5 : decode cX0_isIn 5 = .ok (.iaload, 1) := by decide +kernel
theorem dX0_isIn_6 : decode cX0_isIn 6 = .ok (.iload_n 2, 1) := by decide +kernel
theorem dX0_isIn_7 : decode cX0_isIn 7 = .ok (.if_icmp .ne 7, 3) := by decide +kernel
theorem dX0_isIn_10 : decode cX0_isIn 10 = .ok (.iconst 1, 1) := by decide +kernel
theorem dX0_isIn_11 : decode cX0_isIn 11 = .ok (.goto 4, 3) := by decide +kernel
theorem dX0_isIn_14 : decode cX0_isIn 14 = .ok (.iconst 0, 1) := by decide +kernel
theorem dX0_isIn_15 : decode cX0_isIn 15 = .ok (.ireturn, 1) := by decide +kernel
theorem dX0_nameIn_0 : decode cX0_nameIn 0 = .ok (.aload_n 0, 1) := by decide +kernel
theorem dX0_nameIn_1 : decode cX0_nameIn 1 = .ok (.getfield 17, 3) := by decide +kernel
theorem dX0_nameIn_4 : decode cX0_nameIn 4 = .ok (.iload_n 2, 1) := by decide +kernel
theorem dX0_nameIn_5 : decode cX0_nameIn 5 = .ok (.aaload, 1) := by decide +kernel
theorem dX0_nameIn_6 : decode cX0_nameIn 6 = .ok (.iload_n 1, 1) := by decide +kernel
theorem dX0_nameIn_7 : decode cX0_nameIn 7 = .ok (.iaload, 1) := by decide +kernel
theorem dX0_nameIn_8 : decode cX0_nameIn 8 = .ok (.ireturn, 1) := by decide +kernel
theorem dX0_setOf_0 : decode cX0_setOf 0 = .ok (.aload_n 0, 1) := by decide +kernel
theorem dX0_setOf_1 : decode cX0_setOf 1 = .ok (.getfield 20, 3) := by decide +kernel
theorem dX0_setOf_4 : decode cX0_setOf 4 = .ok (.iload_n 2, 1) := by decide +kernel
theorem dX0_setOf_5 : decode cX0_setOf 5 = .ok (.iconst 2, 1) := by decide +kernel
theorem dX0_setOf_6 : decode cX0_setOf 6 = .ok (.imul, 1) := by decide +kernel
theorem dX0_setOf_7 : decode cX0_setOf 7 = .ok (.iload_n 3, 1) := by decide +kernel
theorem dX0_setOf_8 : decode cX0_setOf 8 = .ok (.iadd, 1) := by decide +kernel
theorem dX0_setOf_9 : decode cX0_setOf 9 = .ok (.aaload, 1) := by decide +kernel
theorem dX0_setOf_10 : decode cX0_setOf 10 = .ok (.iload_n 1, 1) := by decide +kernel
theorem dX0_setOf_11 : decode cX0_setOf 11 = .ok (.iaload, 1) := by decide +kernel
theorem dX0_setOf_12 : decode cX0_setOf 12 = .ok (.ireturn, 1) := by decide +kernel
theorem dX0_putName_0 : decode cX0_putName 0 = .ok (.iload_n 2, 1) := by decide +kernel
theorem dX0_putName_1 : decode cX0_putName 1 = .ok (.ifCond .ne 25, 3) := by decide +kernel
theorem dX0_putName_4 : decode cX0_putName 4 = .ok (.aload_n 0, 1) := by decide +kernel
theorem dX0_putName_5 : decode cX0_putName 5 = .ok (.getfield 17, 3) := by decide +kernel
theorem dX0_putName_8 : decode cX0_putName 8 = .ok (.iload_n 2, 1) := by decide +kernel
theorem dX0_putName_9 : decode cX0_putName 9 = .ok (.aaload, 1) := by decide +kernel
theorem dX0_putName_10 : decode cX0_putName 10 = .ok (.iload_n 1, 1) := by decide +kernel
theorem dX0_putName_11 : decode cX0_putName 11 = .ok (.iaload, 1) := by decide +kernel
theorem dX0_putName_12 : decode cX0_putName 12 = .ok (.iload_n 3, 1) := by decide +kernel
theorem dX0_putName_13 : decode cX0_putName 13 = .ok (.if_icmp .eq 13, 3) := by decide +kernel
theorem dX0_putName_16 : decode cX0_putName 16 = .ok (.aload_n 0, 1) := by decide +kernel
theorem dX0_putName_17 : decode cX0_putName 17 = .ok (.getfield 23, 3) := by decide +kernel
theorem dX0_putName_20 : decode cX0_putName 20 = .ok (.iload_n 1, 1) := by decide +kernel
theorem dX0_putName_21 : decode cX0_putName 21 = .ok (.dup2, 1) := by decide +kernel
theorem dX0_putName_22 : decode cX0_putName 22 = .ok (.iaload, 1) := by decide +kernel
theorem dX0_putName_23 : decode cX0_putName 23 = .ok (.iconst 1, 1) := by decide +kernel
theorem dX0_putName_24 : decode cX0_putName 24 = .ok (.iadd, 1) := by decide +kernel
theorem dX0_putName_25 : decode cX0_putName 25 = .ok (.iastore, 1) := by decide +kernel
theorem dX0_putName_26 : decode cX0_putName 26 = .ok (.aload_n 0, 1) := by decide +kernel
theorem dX0_putName_27 : decode cX0_putName 27 = .ok (.getfield 17, 3) := by decide +kernel
theorem dX0_putName_30 : decode cX0_putName 30 = .ok (.iload_n 2, 1) := by decide +kernel
theorem dX0_putName_31 : decode cX0_putName 31 = .ok (.aaload, 1) := by decide +kernel
theorem dX0_putName_32 : decode cX0_putName 32 = .ok (.iload_n 1, 1) := by decide +kernel
theorem dX0_putName_33 : decode cX0_putName 33 = .ok (.iload_n 3, 1) := by decide +kernel
theorem dX0_putName_34 : decode cX0_putName 34 = .ok (.iastore, 1) := by decide +kernel
theorem dX0_putName_35 : decode cX0_putName 35 = .ok (.return_, 1) := by decide +kernel
set_option maxRecDepth 20000 in
theorem ggX0_putSet_X0_setOf : GoodIn wsX0_putSet wsX0_setOf := goodIn_r _ [7, 2, 8, 9, 10, 11, 12] (by decide +kernel) (by decide +kernel)
set_option maxRecDepth 20000 in
theorem gX0_putSet_X0_setOf : GoodIn wsX0_putSet (wsV RX0 30 RX0 yX0_setOf wsX0_setOf) := goodIn_app (goodIn_of _ (by decide +kernel)) ggX0_putSet_X0_setOf
theorem dX0_putSet_0 : decode cX0_putSet 0 = .ok (.iload_n 2, 1) := by decide +kernel
theorem dX0_putSet_1 : decode cX0_putSet 1 = .ok (.ifCond .ne 25, 3) := by decide +kernel
theorem dX0_putSet_4 : decode cX0_putSet 4 = .ok (.aload_n 0, 1) := by decide +kernel
theorem dX0_putSet_5 : decode cX0_putSet 5 = .ok (.iload_n 1, 1) := by decide +kernel
theorem dX0_putSet_6 : decode cX0_putSet 6 = .ok (.iload_n 2, 1) := by decide +kernel
theorem dX0_putSet_7 : decode cX0_putSet 7 = .ok (.iload_n 3, 1) := by decide +kernel
theorem dX0_putSet_8 : decode cX0_putSet 8 = .ok (.invokevirtual 30, 3) := by decide +kernel
theorem dX0_putSet_11 : decode cX0_putSet 11 = .ok (.iload 4, 2) := by decide +kernel
theorem dX0_putSet_13 : decode cX0_putSet 13 = .ok (.if_icmp .eq 13, 3) := by decide +kernel
theorem dX0_putSet_16 : decode cX0_putSet 16 = .ok (.aload_n 0, 1) := by decide +kernel
theorem dX0_putSet_17 : decode cX0_putSet 17 = .ok (.getfield 23, 3) := by decide +kernel
theorem dX0_putSet_20 : decode cX0_putSet 20 = .ok (.iload_n 1, 1) := by decide +kernel
theorem dX0_putSet_21 : decode cX0_putSet 21 = .ok (.dup2, 1) := by decide +kernel
theorem dX0_putSet_22 : decode cX0_putSet 22 = .ok (.iaload, 1) := by decide +kernel
theorem dX0_putSet_23 : decode cX0_putSet 23 = .ok (.iconst 1, 1) := by decide +kernel
theorem dX0_putSet_24 : decode cX0_putSet 24 = .ok (.iadd, 1) := by decide +kernel
theorem dX0_putSet_25 : decode cX0_putSet 25 = .ok (.iastore, 1) := by decide +kernel
theorem dX0_putSet_26 : decode cX0_putSet 26 = .ok (.aload_n 0, 1) := by decide +kernel
theorem dX0_putSet_27 : decode cX0_putSet 27 = .ok (.getfield 20, 3) := by decide +kernel
theorem dX0_putSet_30 : decode cX0_putSet 30 = .ok (.iload_n 2, 1) := by decide +kernel
theorem dX0_putSet_31 : decode cX0_putSet 31 = .ok (.iconst 2, 1) := by decide +kernel
theorem dX0_putSet_32 : decode cX0_putSet 32 = .ok (.imul, 1) := by decide +kernel
theorem dX0_putSet_33 : decode cX0_putSet 33 = .ok (.iload_n 3, 1) := by decide +kernel
theorem dX0_putSet_34 : decode cX0_putSet 34 = .ok (.iadd, 1) := by decide +kernel
theorem dX0_putSet_35 : decode cX0_putSet 35 = .ok (.aaload, 1) := by decide +kernel
theorem dX0_putSet_36 : decode cX0_putSet 36 = .ok (.iload_n 1, 1) := by decide +kernel
theorem dX0_putSet_37 : decode cX0_putSet 37 = .ok (.iload 4, 2) := by decide +kernel
theorem dX0_putSet_39 : decode cX0_putSet 39 = .ok (.iastore, 1) := by decide +kernel
theorem dX0_putSet_40 : decode cX0_putSet 40 = .ok (.return_, 1) := by decide +kernel
theorem dX0_mineChangesOf_0 : decode cX0_mineChangesOf 0 = .ok (.aload_n 0, 1) := by decide +kernel
theorem dX0_mineChangesOf_1 : decode cX0_mineChangesOf 1 = .ok (.getfield 23, 3) := by decide +kernel
theorem dX0_mineChangesOf_4 : decode cX0_mineChangesOf 4 = .ok (.iload_n 1, 1) := by decide +kernel
theorem dX0_mineChangesOf_5 : decode cX0_mineChangesOf 5 = .ok (.iaload, 1) := by decide +kernel
theorem dX0_mineChangesOf_6 : decode cX0_mineChangesOf 6 = .ok (.aload_n 0, 1) := by decide +kernel
theorem dX0_mineChangesOf_7 : decode cX0_mineChangesOf 7 = .ok (.getfield 23, 3) := by decide +kernel
theorem dX0_mineChangesOf_10 : decode cX0_mineChangesOf 10 = .ok (.iload_n 2, 1) := by decide +kernel
theorem dX0_mineChangesOf_11 : decode cX0_mineChangesOf 11 = .ok (.iaload, 1) := by decide +kernel
theorem dX0_mineChangesOf_12 : decode cX0_mineChangesOf 12 = .ok (.iadd, 1) := by decide +kernel
theorem dX0_mineChangesOf_13 : decode cX0_mineChangesOf 13 = .ok (.ireturn, 1) := by decide +kernel
set_option maxRecDepth 20000 in
theorem ggX0_mergedSet_X0_setOf : GoodIn wsX0_mergedSet wsX0_setOf := goodIn_r _ [5, 6, 7, 8, 9, 10, 11] (by decide +kernel) (by decide +kernel)
set_option maxRecDepth 20000 in
theorem gX0_mergedSet_X0_setOf : GoodIn wsX0_mergedSet (wsV RX0 30 RX0 yX0_setOf wsX0_setOf) := goodIn_app (goodIn_of _ (by decide +kernel)) ggX0_mergedSet_X0_setOf
theorem dX0_mergedSet_0 : decode cX0_mergedSet 0 = .ok (.aload_n 0, 1) := by decide +kernel
theorem dX0_mergedSet_1 : decode cX0_mergedSet 1 = .ok (.iload_n 1, 1) := by decide +kernel
theorem dX0_mergedSet_2 : decode cX0_mergedSet 2 = .ok (.iconst 0, 1) := by decide +kernel
theorem dX0_mergedSet_3 : decode cX0_mergedSet 3 = .ok (.iload_n 2, 1) := by decide +kernel
theorem dX0_mergedSet_4 : decode cX0_mergedSet 4 = .ok (.invokevirtual 30, 3) := by decide +kernel
theorem dX0_mergedSet_7 : decode cX0_mergedSet 7 = .ok (.istore_n 3, 1) := by decide +kernel
theorem dX0_mergedSet_8 : decode cX0_mergedSet 8 = .ok (.aload_n 0, 1) := by decide +kernel
theorem dX0_mergedSet_9 : decode cX0_mergedSet 9 = .ok (.iload_n 1, 1) := by decide +kernel
theorem dX0_mergedSet_10 : decode cX0_mergedSet 10 = .ok (.iconst 1, 1) := by decide +kernel
theorem dX0_mergedSet_11 : decode cX0_mergedSet 11 = .ok (.iload_n 2, 1) := by decide +kernel
theorem dX0_mergedSet_12 : decode cX0_mergedSet 12 = .ok (.invokevirtual 30, 3) := by decide +kernel
theorem dX0_mergedSet_15 : decode cX0_mergedSet 15 = .ok (.istore 4, 2) := by decide +kernel
theorem dX0_mergedSet_17 : decode cX0_mergedSet 17 = .ok (.aload_n 0, 1) := by decide +kernel
theorem dX0_mergedSet_18 : decode cX0_mergedSet 18 = .ok (.iload_n 1, 1) := by decide +kernel
theorem dX0_mergedSet_19 : decode cX0_mergedSet 19 = .ok (.iconst 2, 1) := by decide +kernel
theorem dX0_mergedSet_20 : decode cX0_mergedSet 20 = .ok (.iload_n 2, 1) := by decide +kernel
theorem dX0_mergedSet_21 : decode cX0_mergedSet 21 = .ok (.invokevirtual 30, 3) := by decide +kernel
theorem dX0_mergedSet_24 : decode cX0_mergedSet 24 = .ok (.istore 5, 2) := by decide +kernel
theorem dX0_mergedSet_26 : decode cX0_mergedSet 26 = .ok (.iload_n 3, 1) := by decide +kernel
theorem dX0_mergedSet_27 : decode cX0_mergedSet 27 = .ok (.iload 4, 2) := by decide +kernel
theorem dX0_mergedSet_29 : decode cX0_mergedSet 29 = .ok (.iand, 1) := by decide +kernel
theorem dX0_mergedSet_30 : decode cX0_mergedSet 30 = .ok (.iload_n 3, 1) := by decide +kernel
theorem dX0_mergedSet_31 : decode cX0_mergedSet 31 = .ok (.iload 4, 2) := by decide +kernel
theorem dX0_mergedSet_33 : decode cX0_mergedSet 33 = .ok (.ixor, 1) := by decide +kernel
theorem dX0_mergedSet_34 : decode cX0_mergedSet 34 = .ok (.iload 5, 2) := by decide +kernel
theorem dX0_mergedSet_36 : decode cX0_mergedSet 36 = .ok (.iconst (-1), 1) := by decide +kernel
theorem dX0_mergedSet_37 : decode cX0_mergedSet 37 = .ok (.ixor, 1) := by decide +kernel
theorem dX0_mergedSet_38 : decode cX0_mergedSet 38 = .ok (.iand, 1) := by decide +kernel
theorem dX0_mergedSet_39 : decode cX0_mergedSet 39 = .ok (.ior, 1) := by decide +kernel
theorem dX0_mergedSet_40 : decode cX0_mergedSet 40 = .ok (.ireturn, 1) := by decide +kernel
set_option maxRecDepth 20000 in
theorem ggX0_mergedSetByValues_X0_setOf : GoodIn wsX0_mergedSetByValues wsX0_setOf := goodIn_r _ [5, 6, 10, 11, 12, 13, 14] (by decide +kernel) (by decide +kernel)
set_option maxRecDepth 20000 in
theorem gX0_mergedSetByValues_X0_setOf : GoodIn wsX0_mergedSetByValues (wsV RX0 30 RX0 yX0_setOf wsX0_setOf) := goodIn_app (goodIn_of _ (by decide +kernel)) ggX0_mergedSetByValues_X0_setOf
set_option maxRecDepth 20000 in
theorem ggX0_mergedSetByValues_X3_has : GoodIn wsX0_mergedSetByValues wsX3_has := goodIn_r _ [9] (by decide +kernel) (by decide +kernel)
set_option maxRecDepth 20000 in
theorem gX0_mergedSetByValues_X3_has_n34 : GoodIn wsX0_mergedSetByValues (wsX3_has) := ggX0_mergedSetByValues_X3_has
theorem dX0_mergedSetByValues_0 : decode cX0_mergedSetByValues 0 = .ok (.aload_n 0, 1) := by decide +kernel
theorem dX0_mergedSetByValues_1 : decode cX0_mergedSetByValues 1 = .ok (.iload_n 1, 1) := by decide +kernel
theorem dX0_mergedSetByValues_2 : decode cX0_mergedSetByValues 2 = .ok (.iconst 0, 1) := by decide +kernel
theorem dX0_mergedSetByValues_3 : decode cX0_mergedSetByValues 3 = .ok (.iload_n 2, 1) := by decide +kernel
theorem dX0_mergedSetByValues_4 : decode cX0_mergedSetByValues 4 = .ok (.invokevirtual 30, 3) := by decide +kernel
theorem dX0_mergedSetByValues_7 : decode cX0_mergedSetByValues 7 = .ok (.istore_n 3, 1) := by decide +kernel
theorem dX0_mergedSetByValues_8 : decode cX0_mergedSetByValues 8 = .ok (.aload_n 0, 1) := by decide +kernel
theorem dX0_mergedSetByValues_9 : decode cX0_mergedSetByValues 9 = .ok (.iload_n 1, 1) := by decide +kernel
theorem dX0_mergedSetByValues_10 : decode cX0_mergedSetByValues 10 = .ok (.iconst 1, 1) := by decide +kernel
theorem dX0_mergedSetByValues_11 : decode cX0_mergedSetByValues 11 = .ok (.iload_n 2, 1) := by decide +kernel
theorem dX0_mergedSetByValues_12 : decode cX0_mergedSetByValues 12 = .ok (.invokevirtual 30, 3) := by decide +kernel
theorem dX0_mergedSetByValues_15 : decode cX0_mergedSetByValues 15 = .ok (.istore 4, 2) := by decide +kernel
theorem dX0_mergedSetByValues_17 : decode cX0_mergedSetByValues 17 = .ok (.aload_n 0, 1) := by decide +kernel
theorem dX0_mergedSetByValues_18 : decode cX0_mergedSetByValues 18 = .ok (.iload_n 1, 1) := by decide +kernel
theorem dX0_mergedSetByValues_19 : decode cX0_mergedSetByValues 19 = .ok (.iconst 2, 1) := by decide +kernel
theorem dX0_mergedSetByValues_20 : decode cX0_mergedSetByValues 20 = .ok (.iload_n 2, 1) := by decide +kernel
theorem dX0_mergedSetByValues_21 : decode cX0_mergedSetByValues 21 = .ok (.invokevirtual 30, 3) := by decide +kernel
theorem dX0_mergedSetByValues_24 : decode cX0_mergedSetByValues 24 = .ok (.istore 5, 2) := by decide +kernel
theorem dX0_mergedSetByValues_26 : decode cX0_mergedSetByValues 26 = .ok (.iconst 0, 1) := by decide +kernel
theorem dX0_mergedSetByValues_27 : decode cX0_mergedSetByValues 27 = .ok (.istore 6, 2) := by decide +kernel
theorem dX0_mergedSetByValues_29 : decode cX0_mergedSetByValues 29 = .ok (.iconst 0, 1) := by decide +kernel
theorem dX0_mergedSetByValues_30 : decode cX0_mergedSetByValues 30 = .ok (.istore 7, 2) := by decide +kernel
theorem dX0_mergedSetByValues_32 : decode cX0_mergedSetByValues 32 = .ok (.iload 7, 2) := by decide +kernel
theorem dX0_mergedSetByValues_34 : decode cX0_mergedSetByValues 34 = .ok (.bipush 30, 2) := by decide +kernel
theorem dX0_mergedSetByValues_36 : decode cX0_mergedSetByValues 36 = .ok (.if_icmp .ge 103, 3) := by decide +kernel
theorem dX0_mergedSetByValues_39 : decode cX0_mergedSetByValues 39 = .ok (.iload_n 3, 1) := by decide +kernel
theorem dX0_mergedSetByValues_40 : decode cX0_mergedSetByValues 40 = .ok (.iload 7, 2) := by decide +kernel
theorem dX0_mergedSetByValues_42 : decode cX0_mergedSetByValues 42 = .ok (.invokestatic 34, 3) := by decide +kernel
theorem dX0_mergedSetByValues_45 : decode cX0_mergedSetByValues 45 = .ok (.istore 8, 2) := by decide +kernel
theorem dX0_mergedSetByValues_47 : decode cX0_mergedSetByValues 47 = .ok (.iload 4, 2) := by decide +kernel
theorem dX0_mergedSetByValues_49 : decode cX0_mergedSetByValues 49 = .ok (.iload 7, 2) := by decide +kernel
theorem dX0_mergedSetByValues_51 : decode cX0_mergedSetByValues 51 = .ok (.invokestatic 34, 3) := by decide +kernel
theorem dX0_mergedSetByValues_54 : decode cX0_mergedSetByValues 54 = .ok (.istore 9, 2) := by decide +kernel
theorem dX0_mergedSetByValues_56 : decode cX0_mergedSetByValues 56 = .ok (.iload 5, 2) := by decide +kernel
theorem dX0_mergedSetByValues_58 : decode cX0_mergedSetByValues 58 = .ok (.iload 7, 2) := by decide +kernel
theorem dX0_mergedSetByValues_60 : decode cX0_mergedSetByValues 60 = .ok (.invokestatic 34, 3) := by decide +kernel
theorem dX0_mergedSetByValues_63 : decode cX0_mergedSetByValues 63 = .ok (.istore 10, 2) := by decide +kernel
theorem dX0_mergedSetByValues_65 : decode cX0_mergedSetByValues 65 = .ok (.iload 10, 2) := by decide +kernel
theorem dX0_mergedSetByValues_67 : decode cX0_mergedSetByValues 67 = .ok (.ifCond .ne 17, 3) := by decide +kernel
theorem dX0_mergedSetByValues_70 : decode cX0_mergedSetByValues 70 = .ok (.iload 8, 2) := by decide +kernel
theorem dX0_mergedSetByValues_72 : decode cX0_mergedSetByValues 72 = .ok (.ifCond .ne 8, 3) := by decide +kernel
theorem dX0_mergedSetByValues_75 : decode cX0_mergedSetByValues 75 = .ok (.iload 9, 2) := by decide +kernel
theorem dX0_mergedSetByValues_77 : decode cX0_mergedSetByValues 77 = .ok (.ifCond .eq 7, 3) := by decide +kernel
theorem dX0_mergedSetByValues_80 : decode cX0_mergedSetByValues 80 = .ok (.iconst 1, 1) := by decide +kernel
theorem dX0_mergedSetByValues_81 : decode cX0_mergedSetByValues 81 = .ok (.goto 4, 3) := by decide +kernel
theorem dX0_mergedSetByValues_84 : decode cX0_mergedSetByValues 84 = .ok (.iconst 0, 1) := by decide +kernel
theorem dX0_mergedSetByValues_85 : decode cX0_mergedSetByValues 85 = .ok (.istore 11, 2) := by decide +kernel
theorem dX0_mergedSetByValues_87 : decode cX0_mergedSetByValues 87 = .ok (.iload 10, 2) := by decide +kernel
theorem dX0_mergedSetByValues_89 : decode cX0_mergedSetByValues 89 = .ok (.ifCond .eq 17, 3) := by decide +kernel
theorem dX0_mergedSetByValues_92 : decode cX0_mergedSetByValues 92 = .ok (.iload 8, 2) := by decide +kernel
theorem dX0_mergedSetByValues_94 : decode cX0_mergedSetByValues 94 = .ok (.ifCond .eq 8, 3) := by decide +kernel
theorem dX0_mergedSetByValues_97 : decode cX0_mergedSetByValues 97 = .ok (.iload 9, 2) := by decide +kernel
theorem dX0_mergedSetByValues_99 : decode cX0_mergedSetByValues 99 = .ok (.ifCond .ne 7, 3) := by decide +kernel
theorem dX0_mergedSetByValues_102 : decode cX0_mergedSetByValues 102 = .ok (.iconst 1, 1) := by decide +kernel
theorem dX0_mergedSetByValues_103 : decode cX0_mergedSetByValues 103 = .ok (.goto 4, 3) := by decide +kernel
theorem dX0_mergedSetByValues_106 : decode cX0_mergedSetByValues 106 = .ok (.iconst 0, 1) := by decide +kernel
theorem dX0_mergedSetByValues_107 : decode cX0_mergedSetByValues 107 = .ok (.istore 12, 2) := by decide +kernel
theorem dX0_mergedSetByValues_109 : decode cX0_mergedSetByValues 109 = .ok (.iload 11, 2) := by decide +kernel
theorem dX0_mergedSetByValues_111 : decode cX0_mergedSetByValues 111 = .ok (.ifCond .ne 13, 3) := by decide +kernel
theorem dX0_mergedSetByValues_114 : decode cX0_mergedSetByValues 114 = .ok (.iload 10, 2) := by decide +kernel
theorem dX0_mergedSetByValues_116 : decode cX0_mergedSetByValues 116 = .ok (.ifCond .eq 17, 3) := by decide +kernel
theorem dX0_mergedSetByValues_119 : decode cX0_mergedSetByValues 119 = .ok (.iload 12, 2) := by decide +kernel
theorem dX0_mergedSetByValues_121 : decode cX0_mergedSetByValues 121 = .ok (.ifCond .ne 12, 3) := by decide +kernel
theorem dX0_mergedSetByValues_124 : decode cX0_mergedSetByValues 124 = .ok (.iload 6, 2) := by decide +kernel
theorem dX0_mergedSetByValues_126 : decode cX0_mergedSetByValues 126 = .ok (.iconst 1, 1) := by decide +kernel
theorem dX0_mergedSetByValues_127 : decode cX0_mergedSetByValues 127 = .ok (.iload 7, 2) := by decide +kernel
theorem dX0_mergedSetByValues_129 : decode cX0_mergedSetByValues 129 = .ok (.ishl, 1) := by decide +kernel
theorem dX0_mergedSetByValues_130 : decode cX0_mergedSetByValues 130 = .ok (.ior, 1) := by decide +kernel
theorem dX0_mergedSetByValues_131 : decode cX0_mergedSetByValues 131 = .ok (.istore 6, 2) := by decide +kernel
theorem dX0_mergedSetByValues_133 : decode cX0_mergedSetByValues 133 = .ok (.iinc 7 1, 3) := by decide +kernel
theorem dX0_mergedSetByValues_136 : decode cX0_mergedSetByValues 136 = .ok (.goto (-104), 3) := by decide +kernel
theorem dX0_mergedSetByValues_139 : decode cX0_mergedSetByValues 139 = .ok (.iload 6, 2) := by decide +kernel
theorem dX0_mergedSetByValues_141 : decode cX0_mergedSetByValues 141 = .ok (.ireturn, 1) := by decide +kernel
set_option maxRecDepth 20000 in
theorem ggX0_mergedName_X0_nameIn : GoodIn wsX0_mergedName wsX0_nameIn := goodIn_r _ [5, 6, 7, 8, 9, 10, 11] (by decide +kernel) (by decide +kernel)
set_option maxRecDepth 20000 in
theorem gX0_mergedName_X0_nameIn : GoodIn wsX0_mergedName (wsV RX0 38 RX0 yX0_nameIn wsX0_nameIn) := goodIn_app (goodIn_of _ (by decide +kernel)) ggX0_mergedName_X0_nameIn
theorem dX0_mergedName_0 : decode cX0_mergedName 0 = .ok (.aload_n 0, 1) := by decide +kernel
theorem dX0_mergedName_1 : decode cX0_mergedName 1 = .ok (.iload_n 1, 1) := by decide +kernel
theorem dX0_mergedName_2 : decode cX0_mergedName 2 = .ok (.iconst 0, 1) := by decide +kernel
theorem dX0_mergedName_3 : decode cX0_mergedName 3 = .ok (.invokevirtual 38, 3) := by decide +kernel
theorem dX0_mergedName_6 : decode cX0_mergedName 6 = .ok (.istore_n 2, 1) := by decide +kernel
theorem dX0_mergedName_7 : decode cX0_mergedName 7 = .ok (.iload_n 2, 1) := by decide +kernel
theorem dX0_mergedName_8 : decode cX0_mergedName 8 = .ok (.aload_n 0, 1) := by decide +kernel
theorem dX0_mergedName_9 : decode cX0_mergedName 9 = .ok (.iload_n 1, 1) := by decide +kernel
theorem dX0_mergedName_10 : decode cX0_mergedName 10 = .ok (.iconst 2, 1) := by decide +kernel
theorem dX0_mergedName_11 : decode cX0_mergedName 11 = .ok (.invokevirtual 38, 3) := by decide +kernel
theorem dX0_mergedName_14 : decode cX0_mergedName 14 = .ok (.if_icmp .ne 12, 3) := by decide +kernel
theorem dX0_mergedName_17 : decode cX0_mergedName 17 = .ok (.aload_n 0, 1) := by decide +kernel
theorem dX0_mergedName_18 : decode cX0_mergedName 18 = .ok (.iload_n 1, 1) := by decide +kernel
theorem dX0_mergedName_19 : decode cX0_mergedName 19 = .ok (.iconst 1, 1) := by decide +kernel
theorem dX0_mergedName_20 : decode cX0_mergedName 20 = .ok (.invokevirtual 38, 3) := by decide +kernel
theorem dX0_mergedName_23 : decode cX0_mergedName 23 = .ok (.goto 4, 3) := by decide +kernel
theorem dX0_mergedName_26 : decode cX0_mergedName 26 = .ok (.iload_n 2, 1) := by decide +kernel
theorem dX0_mergedName_27 : decode cX0_mergedName 27 = .ok (.ireturn, 1) := by decide +kernel
set_option maxRecDepth 20000 in
theorem ggX0_namesClash_X0_nameIn : GoodIn wsX0_namesClash wsX0_nameIn := goodIn_r _ [5, 6, 7, 8, 9, 10, 11] (by decide +kernel) (by decide +kernel)
set_option maxRecDepth 20000 in
theorem gX0_namesClash_X0_nameIn : GoodIn wsX0_namesClash (wsV RX0 38 RX0 yX0_nameIn wsX0_nameIn) := goodIn_app (goodIn_of _ (by decide +kernel)) ggX0_namesClash_X0_nameIn
theorem dX0_namesClash_0 : decode cX0_namesClash 0 = .ok (.aload_n 0, 1) := by decide +kernel
theorem dX0_namesClash_1 : decode cX0_namesClash 1 = .ok (.iload_n 1, 1) := by decide +kernel
theorem dX0_namesClash_2 : decode cX0_namesClash 2 = .ok (.iconst 0, 1) := by decide +kernel
theorem dX0_namesClash_3 : decode cX0_namesClash 3 = .ok (.invokevirtual 38, 3) := by decide +kernel
theorem dX0_namesClash_6 : decode cX0_namesClash 6 = .ok (.istore_n 2, 1) := by decide +kernel
theorem dX0_namesClash_7 : decode cX0_namesClash 7 = .ok (.aload_n 0, 1) := by decide +kernel
theorem dX0_namesClash_8 : decode cX0_namesClash 8 = .ok (.iload_n 1, 1) := by decide +kernel
theorem dX0_namesClash_9 : decode cX0_namesClash 9 = .ok (.iconst 1, 1) := by decide +kernel
theorem dX0_namesClash_10 : decode cX0_namesClash 10 = .ok (.invokevirtual 38, 3) := by decide +kernel
theorem dX0_namesClash_13 : decode cX0_namesClash 13 = .ok (.istore_n 3, 1) := by decide +kernel
theorem dX0_namesClash_14 : decode cX0_namesClash 14 = .ok (.aload_n 0, 1) := by decide +kernel
theorem dX0_namesClash_15 : decode cX0_namesClash 15 = .ok (.iload_n 1, 1) := by decide +kernel
theorem dX0_namesClash_16 : decode cX0_namesClash 16 = .ok (.iconst 2, 1) := by decide +kernel
theorem dX0_namesClash_17 : decode cX0_namesClash 17 = .ok (.invokevirtual 38, 3) := by decide +kernel
theorem dX0_namesClash_20 : decode cX0_namesClash 20 = .ok (.istore 4, 2) := by decide +kernel
theorem dX0_namesClash_22 : decode cX0_namesClash 22 = .ok (.iload_n 2, 1) := by decide +kernel
theorem dX0_namesClash_23 : decode cX0_namesClash 23 = .ok (.iload_n 3, 1) := by decide +kernel
theorem dX0_namesClash_24 : decode cX0_namesClash 24 = .ok (.if_icmp .eq 19, 3) := by decide +kernel
theorem dX0_namesClash_27 : decode cX0_namesClash 27 = .ok (.iload_n 2, 1) := by decide +kernel
theorem dX0_namesClash_28 : decode cX0_namesClash 28 = .ok (.iload 4, 2) := by decide +kernel
theorem dX0_namesClash_30 : decode cX0_namesClash 30 = .ok (.if_icmp .eq 13, 3) := by decide +kernel
theorem dX0_namesClash_33 : decode cX0_namesClash 33 = .ok (.iload_n 3, 1) := by decide +kernel
theorem dX0_namesClash_34 : decode cX0_namesClash 34 = .ok (.iload 4, 2) := by decide +kernel
theorem dX0_namesClash_36 : decode cX0_namesClash 36 = .ok (.if_icmp .eq 7, 3) := by decide +kernel
theorem dX0_namesClash_39 : decode cX0_namesClash 39 = .ok (.iconst 1, 1) := by decide +kernel
theorem dX0_namesClash_40 : decode cX0_namesClash 40 = .ok (.goto 4, 3) := by decide +kernel
theorem dX0_namesClash_43 : decode cX0_namesClash 43 = .ok (.iconst 0, 1) := by decide +kernel
theorem dX0_namesClash_44 : decode cX0_namesClash 44 = .ok (.ireturn, 1) := by decide +kernel
set_option maxRecDepth 20000 in
theorem ggX0_mergeVersions_X0_mergedName : GoodIn wsX0_mergeVersions wsX0_mergedName := goodIn_r _ [5, 6, 7, 8, 4, 9, 10, 29, 30, 31, 32, 33] (by decide +kernel) (by decide +kernel)
set_option maxRecDepth 20000 in
theorem gX0_mergeVersions_X0_mergedName : GoodIn wsX0_mergeVersions (wsV RX0 42 RX0 yX0_mergedName wsX0_mergedName) := goodIn_app (goodIn_of _ (by decide +kernel)) ggX0_mergeVersions_X0_mergedName
set_option maxRecDepth 20000 in
theorem ggX0_mergeVersions_X0_mergedSet : GoodIn wsX0_mergeVersions wsX0_mergedSet := goodIn_r _ [14, 15, 16, 17, 4, 18, 19, 29, 30, 31, 32, 33] (by decide +kernel) (by decide +kernel)
set_option maxRecDepth 20000 in
theorem gX0_mergeVersions_X0_mergedSet : GoodIn wsX0_mergeVersions (wsV RX0 46 RX0 yX0_mergedSet wsX0_mergedSet) := goodIn_app (goodIn_of _ (by decide +kernel)) ggX0_mergeVersions_X0_mergedSet
set_option maxRecDepth 20000 in
theorem ggX0_mergeVersions_X0_putName : GoodIn wsX0_mergeVersions wsX0_putName := goodIn_r _ [23, 10, 24, 29, 30, 31, 32, 33] (by decide +kernel) (by decide +kernel)
set_option maxRecDepth 20000 in
theorem gX0_mergeVersions_X0_putName : GoodIn wsX0_mergeVersions (wsV RX0 49 RX0 yX0_putName wsX0_putName) := goodIn_app (goodIn_of _ (by decide +kernel)) ggX0_mergeVersions_X0_putName
set_option maxRecDepth 20000 in
theorem ggX0_mergeVersions_X0_putSet : GoodIn wsX0_mergeVersions wsX0_putSet := goodIn_r _ [28, 24, 19, 15, 16, 17, 4, 18, 29, 30, 31, 32, 33] (by decide +kernel) (by decide +kernel)
set_option maxRecDepth 20000 in
theorem gX0_mergeVersions_X0_putSet : GoodIn wsX0_mergeVersions (wsV RX0 53 RX0 yX0_putSet wsX0_putSet) := goodIn_app (goodIn_of _ (by decide +kernel)) ggX0_mergeVersions_X0_putSet
theorem dX0_mergeVersions_0 : decode cX0_mergeVersions 0 = .ok (.aload_n 0, 1) := by decide +kernel
theorem dX0_mergeVersions_1 : decode cX0_mergeVersions 1 = .ok (.iload_n 1, 1) := by decide +kernel
theorem dX0_mergeVersions_2 : decode cX0_mergeVersions 2 = .ok (.invokevirtual 42, 3) := by decide +kernel
theorem dX0_mergeVersions_5 : decode cX0_mergeVersions 5 = .ok (.istore_n 2, 1) := by decide +kernel
theorem dX0_mergeVersions_6 : decode cX0_mergeVersions 6 = .ok (.aload_n 0, 1) := by decide +kernel
theorem dX0_mergeVersions_7 : decode cX0_mergeVersions 7 = .ok (.iload_n 1, 1) := by decide +kernel
theorem dX0_mergeVersions_8 : decode cX0_mergeVersions 8 = .ok (.iconst 0, 1) := by decide +kernel
theorem dX0_mergeVersions_9 : decode cX0_mergeVersions 9 = .ok (.invokevirtual 46, 3) := by decide +kernel
theorem dX0_mergeVersions_12 : decode cX0_mergeVersions 12 = .ok (.istore_n 3, 1) := by decide +kernel
theorem dX0_mergeVersions_13 : decode cX0_mergeVersions 13 = .ok (.aload_n 0, 1) := by decide +kernel
theorem dX0_mergeVersions_14 : decode cX0_mergeVersions 14 = .ok (.iload_n 1, 1) := by decide +kernel
theorem dX0_mergeVersions_15 : decode cX0_mergeVersions 15 = .ok (.iconst 1, 1) := by decide +kernel
theorem dX0_mergeVersions_16 : decode cX0_mergeVersions 16 = .ok (.invokevirtual 46, 3) := by decide +kernel
theorem dX0_mergeVersions_19 : decode cX0_mergeVersions 19 = .ok (.istore 4, 2) := by decide +kernel
theorem dX0_mergeVersions_21 : decode cX0_mergeVersions 21 = .ok (.iconst 0, 1) := by decide +kernel
theorem dX0_mergeVersions_22 : decode cX0_mergeVersions 22 = .ok (.istore 5, 2) := by decide +kernel
theorem dX0_mergeVersions_24 : decode cX0_mergeVersions 24 = .ok (.iload 5, 2) := by decide +kernel
theorem dX0_mergeVersions_26 : decode cX0_mergeVersions 26 = .ok (.iconst 3, 1) := by decide +kernel
theorem dX0_mergeVersions_27 : decode cX0_mergeVersions 27 = .ok (.if_icmp .ge 36, 3) := by decide +kernel
theorem dX0_mergeVersions_30 : decode cX0_mergeVersions 30 = .ok (.aload_n 0, 1) := by decide +kernel
theorem dX0_mergeVersions_31 : decode cX0_mergeVersions 31 = .ok (.iload_n 1, 1) := by decide +kernel
theorem dX0_mergeVersions_32 : decode cX0_mergeVersions 32 = .ok (.iload 5, 2) := by decide +kernel
theorem dX0_mergeVersions_34 : decode cX0_mergeVersions 34 = .ok (.iload_n 2, 1) := by decide +kernel
theorem dX0_mergeVersions_35 : decode cX0_mergeVersions 35 = .ok (.invokevirtual 49, 3) := by decide +kernel
theorem dX0_mergeVersions_38 : decode cX0_mergeVersions 38 = .ok (.aload_n 0, 1) := by decide +kernel
theorem dX0_mergeVersions_39 : decode cX0_mergeVersions 39 = .ok (.iload_n 1, 1) := by decide +kernel
theorem dX0_mergeVersions_40 : decode cX0_mergeVersions 40 = .ok (.iload 5, 2) := by decide +kernel
theorem dX0_mergeVersions_42 : decode cX0_mergeVersions 42 = .ok (.iconst 0, 1) := by decide +kernel
theorem dX0_mergeVersions_43 : decode cX0_mergeVersions 43 = .ok (.iload_n 3, 1) := by decide +kernel
theorem dX0_mergeVersions_44 : decode cX0_mergeVersions 44 = .ok (.invokevirtual 53, 3) := by decide +kernel
theorem dX0_mergeVersions_47 : decode cX0_mergeVersions 47 = .ok (.aload_n 0, 1) := by decide +kernel
theorem dX0_mergeVersions_48 : decode cX0_mergeVersions 48 = .ok (.iload_n 1, 1) := by decide +kernel
theorem dX0_mergeVersions_49 : decode cX0_mergeVersions 49 = .ok (.iload 5, 2) := by decide +kernel
theorem dX0_mergeVersions_51 : decode cX0_mergeVersions 51 = .ok (.iconst 1, 1) := by decide +kernel
theorem dX0_mergeVersions_52 : decode cX0_mergeVersions 52 = .ok (.iload 4, 2) := by decide +kernel
theorem dX0_mergeVersions_54 : decode cX0_mergeVersions 54 = .ok (.invokevirtual 53, 3) := by decide +kernel
theorem dX0_mergeVersions_57 : decode cX0_mergeVersions 57 = .ok (.iinc 5 1, 3) := by decide +kernel
theorem dX0_mergeVersions_60 : decode cX0_mergeVersions 60 = .ok (.goto (-36), 3) := by decide +kernel
theorem dX0_mergeVersions_63 : decode cX0_mergeVersions 63 = .ok (.return_, 1) := by decide +kernel
set_option maxRecDepth 20000 in
theorem ggX0_isSynced_X0_mergedName : GoodIn wsX0_isSynced wsX0_mergedName := goodIn_r _ [5, 6, 7, 8, 4, 9, 10, 20, 21, 22, 23, 24] (by decide +kernel) (by decide +kernel)
set_option maxRecDepth 20000 in
theorem gX0_isSynced_X0_mergedName : GoodIn wsX0_isSynced (wsV RX0 42 RX0 yX0_mergedName wsX0_mergedName) := goodIn_app (goodIn_of _ (by decide +kernel)) ggX0_isSynced_X0_mergedName
set_option maxRecDepth 20000 in
theorem ggX0_isSynced_X0_mergedSet : GoodIn wsX0_isSynced wsX0_mergedSet := goodIn_r _ [14, 15, 16, 17, 4, 18, 19, 20, 21, 22, 23, 24] (by decide +kernel) (by decide +kernel)
set_option maxRecDepth 20000 in
theorem gX0_isSynced_X0_mergedSet : GoodIn wsX0_isSynced (wsV RX0 46 RX0 yX0_mergedSet wsX0_mergedSet) := goodIn_app (goodIn_of _ (by decide +kernel)) ggX0_isSynced_X0_mergedSet
set_option maxRecDepth 20000 in
theorem ggX0_isSynced_X0_nameIn : GoodIn wsX0_isSynced wsX0_nameIn := goodIn_r _ [9, 10, 20, 21, 22, 23, 24] (by decide +kernel) (by decide +kernel)
set_option maxRecDepth 20000 in
theorem gX0_isSynced_X0_nameIn : GoodIn wsX0_isSynced (wsV RX0 38 RX0 yX0_nameIn wsX0_nameIn) := goodIn_app (goodIn_of _ (by decide +kernel)) ggX0_isSynced_X0_nameIn
set_option maxRecDepth 20000 in
theorem ggX0_isSynced_X0_setOf : GoodIn wsX0_isSynced wsX0_setOf := goodIn_r _ [18, 19, 20, 21, 22, 23, 24] (by decide +kernel) (by decide +kernel)
set_option maxRecDepth 20000 in
theorem gX0_isSynced_X0_setOf : GoodIn wsX0_isSynced (wsV RX0 30 RX0 yX0_setOf wsX0_setOf) := goodIn_app (goodIn_of _ (by decide +kernel)) ggX0_isSynced_X0_setOf
theorem dX0_isSynced_0 : decode cX0_isSynced 0 = .ok (.aload_n 0, 1) := by decide +kernel
theorem dX0_isSynced_1 : decode cX0_isSynced 1 = .ok (.iload_n 1, 1) := by decide +kernel
theorem dX0_isSynced_2 : decode cX0_isSynced 2 = .ok (.invokevirtual 42, 3) := by decide +kernel
theorem dX0_isSynced_5 : decode cX0_isSynced 5 = .ok (.istore_n 2, 1) := by decide +kernel
theorem dX0_isSynced_6 : decode cX0_isSynced 6 = .ok (.aload_n 0, 1) := by decide +kernel
theorem dX0_isSynced_7 : decode cX0_isSynced 7 = .ok (.iload_n 1, 1) := by decide +kernel
theorem dX0_isSynced_8 : decode cX0_isSynced 8 = .ok (.iconst 0, 1) := by decide +kernel
theorem dX0_isSynced_9 : decode cX0_isSynced 9 = .ok (.invokevirtual 46, 3) := by decide +kernel
theorem dX0_isSynced_12 : decode cX0_isSynced 12 = .ok (.istore_n 3, 1) := by decide +kernel
theorem dX0_isSynced_13 : decode cX0_isSynced 13 = .ok (.aload_n 0, 1) := by decide +kernel
theorem dX0_isSynced_14 : decode cX0_isSynced 14 = .ok (.iload_n 1, 1) := by decide +kernel
theorem dX0_isSynced_15 : decode cX0_isSynced 15 = .ok (.iconst 1, 1) := by decide +kernel
theorem dX0_isSynced_16 : decode cX0_isSynced 16 = .ok (.invokevirtual 46, 3) := by decide +kernel
theorem dX0_isSynced_19 : decode cX0_isSynced 19 = .ok (.istore 4, 2) := by decide +kernel
theorem dX0_isSynced_21 : decode cX0_isSynced 21 = .ok (.iconst 0, 1) := by decide +kernel
theorem dX0_isSynced_22 : decode cX0_isSynced 22 = .ok (.istore 5, 2) := by decide +kernel
theorem dX0_isSynced_24 : decode cX0_isSynced 24 = .ok (.iload 5, 2) := by decide +kernel
theorem dX0_isSynced_26 : decode cX0_isSynced 26 = .ok (.iconst 3, 1) := by decide +kernel
theorem dX0_isSynced_27 : decode cX0_isSynced 27 = .ok (.if_icmp .ge 47, 3) := by decide +kernel
theorem dX0_isSynced_30 : decode cX0_isSynced 30 = .ok (.aload_n 0, 1) := by decide +kernel
theorem dX0_isSynced_31 : decode cX0_isSynced 31 = .ok (.iload_n 1, 1) := by decide +kernel
theorem dX0_isSynced_32 : decode cX0_isSynced 32 = .ok (.iload 5, 2) := by decide +kernel
theorem dX0_isSynced_34 : decode cX0_isSynced 34 = .ok (.invokevirtual 38, 3) := by decide +kernel
theorem dX0_isSynced_37 : decode cX0_isSynced 37 = .ok (.iload_n 2, 1) := by decide +kernel
theorem dX0_isSynced_38 : decode cX0_isSynced 38 = .ok (.if_icmp .ne 28, 3) := by decide +kernel
theorem dX0_isSynced_41 : decode cX0_isSynced 41 = .ok (.aload_n 0, 1) := by decide +kernel
theorem dX0_isSynced_42 : decode cX0_isSynced 42 = .ok (.iload_n 1, 1) := by decide +kernel
theorem dX0_isSynced_43 : decode cX0_isSynced 43 = .ok (.iload 5, 2) := by decide +kernel
theorem dX0_isSynced_45 : decode cX0_isSynced 45 = .ok (.iconst 0, 1) := by decide +kernel
theorem dX0_isSynced_46 : decode cX0_isSynced 46 = .ok (.invokevirtual 30, 3) := by decide +kernel
theorem dX0_isSynced_49 : decode cX0_isSynced 49 = .ok (.iload_n 3, 1) := by decide +kernel
theorem dX0_isSynced_50 : decode cX0_isSynced 50 = .ok (.if_icmp .ne 16, 3) := by decide +kernel
theorem dX0_isSynced_53 : decode cX0_isSynced 53 = .ok (.aload_n 0, 1) := by decide +kernel
theorem dX0_isSynced_54 : decode cX0_isSynced 54 = .ok (.iload_n 1, 1) := by decide +kernel
theorem dX0_isSynced_55 : decode cX0_isSynced 55 = .ok (.iload 5, 2) := by decide +kernel
theorem dX0_isSynced_57 : decode cX0_isSynced 57 = .ok (.iconst 1, 1) := by decide +kernel
theorem dX0_isSynced_58 : decode cX0_isSynced 58 = .ok (.invokevirtual 30, 3) := by decide +kernel
theorem dX0_isSynced_61 : decode cX0_isSynced 61 = .ok (.iload 4, 2) := by decide +kernel
theorem dX0_isSynced_63 : decode cX0_isSynced 63 = .ok (.if_icmp .eq 5, 3) := by decide +kernel
theorem dX0_isSynced_66 : decode cX0_isSynced 66 = .ok (.iconst 0, 1) := by decide +kernel
theorem dX0_isSynced_67 : decode cX0_isSynced 67 = .ok (.ireturn, 1) := by decide +kernel
theorem dX0_isSynced_68 : decode cX0_isSynced 68 = .ok (.iinc 5 1, 3) := by decide +kernel
theorem dX0_isSynced_71 : decode cX0_isSynced 71 = .ok (.goto (-47), 3) := by decide +kernel
theorem dX0_isSynced_74 : decode cX0_isSynced 74 = .ok (.iconst 1, 1) := by decide +kernel
theorem dX0_isSynced_75 : decode cX0_isSynced 75 = .ok (.ireturn, 1) := by decide +kernel
set_option maxRecDepth 20000 in
theorem ggX0_countShared_X0_setOf : GoodIn wsX0_countShared wsX0_setOf := goodIn_r _ [5, 6, 14, 15, 16, 17, 18] (by decide +kernel) (by decide +kernel)
set_option maxRecDepth 20000 in
theorem gX0_countShared_X0_setOf : GoodIn wsX0_countShared (wsV RX0 30 RX0 yX0_setOf wsX0_setOf) := goodIn_app (goodIn_of _ (by decide +kernel)) ggX0_countShared_X0_setOf
set_option maxRecDepth 20000 in
theorem ggX0_countShared_J6_bitCount_0f7a4 : GoodIn wsX0_countShared wsJ6_bitCount_0f7a4 := goodIn_r _ [10, 11, 12, 13] (by decide +kernel) (by decide +kernel)
set_option maxRecDepth 20000 in
theorem gX0_countShared_J6_bitCount_0f7a4 : GoodIn wsX0_countShared (va_wsS RX0 57 yJ6_bitCount_0f7a4 wsJ6_bitCount_0f7a4) := goodIn_app (goodIn_of _ (by decide +kernel)) ggX0_countShared_J6_bitCount_0f7a4
theorem dX0_countShared_0 : decode cX0_countShared 0 = .ok (.aload_n 0, 1) := by decide +kernel
theorem dX0_countShared_1 : decode cX0_countShared 1 = .ok (.iload_n 1, 1) := by decide +kernel
theorem dX0_countShared_2 : decode cX0_countShared 2 = .ok (.iconst 0, 1) := by decide +kernel
theorem dX0_countShared_3 : decode cX0_countShared 3 = .ok (.iload_n 3, 1) := by decide +kernel
theorem dX0_countShared_4 : decode cX0_countShared 4 = .ok (.invokevirtual 30, 3) := by decide +kernel
theorem dX0_countShared_7 : decode cX0_countShared 7 = .ok (.aload_n 0, 1) := by decide +kernel
theorem dX0_countShared_8 : decode cX0_countShared 8 = .ok (.iload_n 2, 1) := by decide +kernel
theorem dX0_countShared_9 : decode cX0_countShared 9 = .ok (.iconst 0, 1) := by decide +kernel
theorem dX0_countShared_10 : decode cX0_countShared 10 = .ok (.iload_n 3, 1) := by decide +kernel
theorem dX0_countShared_11 : decode cX0_countShared 11 = .ok (.invokevirtual 30, 3) := by decide +kernel
theorem dX0_countShared_14 : decode cX0_countShared 14 = .ok (.iand, 1) := by decide +kernel
theorem dX0_countShared_15 : decode cX0_countShared 15 = .ok (.invokestatic 57, 3) := by decide +kernel
theorem dX0_countShared_18 : decode cX0_countShared 18 = .ok (.ireturn, 1) := by decide +kernel
set_option maxRecDepth 20000 in
theorem ggX0_preferredOf_X3_has : GoodIn wsX0_preferredOf wsX3_has := goodIn_r _ [4] (by decide +kernel) (by decide +kernel)
set_option maxRecDepth 20000 in
theorem gX0_preferredOf_X3_has_n34 : GoodIn wsX0_preferredOf (wsX3_has) := ggX0_preferredOf_X3_has
set_option maxRecDepth 20000 in
theorem ggX0_preferredOf_X0_isAhead : GoodIn wsX0_preferredOf wsX0_isAhead := goodIn_r _ [9, 10, 11, 12, 13, 14, 15] (by decide +kernel) (by decide +kernel)
set_option maxRecDepth 20000 in
theorem gX0_preferredOf_X0_isAhead : GoodIn wsX0_preferredOf (wsV RX0 62 RX0 yX0_isAhead wsX0_isAhead) := goodIn_app (goodIn_of _ (by decide +kernel)) ggX0_preferredOf_X0_isAhead
theorem dX0_preferredOf_0 : decode cX0_preferredOf 0 = .ok (.iload_n 1, 1) := by decide +kernel
theorem dX0_preferredOf_1 : decode cX0_preferredOf 1 = .ok (.istore_n 3, 1) := by decide +kernel
theorem dX0_preferredOf_2 : decode cX0_preferredOf 2 = .ok (.iconst 0, 1) := by decide +kernel
theorem dX0_preferredOf_3 : decode cX0_preferredOf 3 = .ok (.istore 4, 2) := by decide +kernel
theorem dX0_preferredOf_5 : decode cX0_preferredOf 5 = .ok (.iload 4, 2) := by decide +kernel
theorem dX0_preferredOf_7 : decode cX0_preferredOf 7 = .ok (.aload_n 0, 1) := by decide +kernel
theorem dX0_preferredOf_8 : decode cX0_preferredOf 8 = .ok (.getfield 26, 3) := by decide +kernel
theorem dX0_preferredOf_11 : decode cX0_preferredOf 11 = .ok (.if_icmp .ge 31, 3) := by decide +kernel
theorem dX0_preferredOf_14 : decode cX0_preferredOf 14 = .ok (.iload_n 2, 1) := by decide +kernel
theorem dX0_preferredOf_15 : decode cX0_preferredOf 15 = .ok (.iload 4, 2) := by decide +kernel
theorem dX0_preferredOf_17 : decode cX0_preferredOf 17 = .ok (.invokestatic 34, 3) := by decide +kernel
theorem dX0_preferredOf_20 : decode cX0_preferredOf 20 = .ok (.ifCond .eq 16, 3) := by decide +kernel
theorem dX0_preferredOf_23 : decode cX0_preferredOf 23 = .ok (.aload_n 0, 1) := by decide +kernel
theorem dX0_preferredOf_24 : decode cX0_preferredOf 24 = .ok (.iload 4, 2) := by decide +kernel
theorem dX0_preferredOf_26 : decode cX0_preferredOf 26 = .ok (.iload_n 3, 1) := by decide +kernel
theorem dX0_preferredOf_27 : decode cX0_preferredOf 27 = .ok (.invokevirtual 62, 3) := by decide +kernel
theorem dX0_preferredOf_30 : decode cX0_preferredOf 30 = .ok (.ifCond .eq 6, 3) := by decide +kernel
theorem dX0_preferredOf_33 : decode cX0_preferredOf 33 = .ok (.iload 4, 2) := by decide +kernel
theorem dX0_preferredOf_35 : decode cX0_preferredOf 35 = .ok (.istore_n 3, 1) := by decide +kernel
theorem dX0_preferredOf_36 : decode cX0_preferredOf 36 = .ok (.iinc 4 1, 3) := by decide +kernel
theorem dX0_preferredOf_39 : decode cX0_preferredOf 39 = .ok (.goto (-34), 3) := by decide +kernel
theorem dX0_preferredOf_42 : decode cX0_preferredOf 42 = .ok (.iload_n 3, 1) := by decide +kernel
theorem dX0_preferredOf_43 : decode cX0_preferredOf 43 = .ok (.ireturn, 1) := by decide +kernel
theorem dX0_isAhead_0 : decode cX0_isAhead 0 = .ok (.aload_n 0, 1) := by decide +kernel
theorem dX0_isAhead_1 : decode cX0_isAhead 1 = .ok (.getfield 9, 3) := by decide +kernel
theorem dX0_isAhead_4 : decode cX0_isAhead 4 = .ok (.iload_n 1, 1) := by decide +kernel
theorem dX0_isAhead_5 : decode cX0_isAhead 5 = .ok (.iaload, 1) := by decide +kernel
theorem dX0_isAhead_6 : decode cX0_isAhead 6 = .ok (.aload_n 0, 1) := by decide +kernel
theorem dX0_isAhead_7 : decode cX0_isAhead 7 = .ok (.getfield 9, 3) := by decide +kernel
theorem dX0_isAhead_10 : decode cX0_isAhead 10 = .ok (.iload_n 2, 1) := by decide +kernel
theorem dX0_isAhead_11 : decode cX0_isAhead 11 = .ok (.iaload, 1) := by decide +kernel
theorem dX0_isAhead_12 : decode cX0_isAhead 12 = .ok (.if_icmp .lt 23, 3) := by decide +kernel
theorem dX0_isAhead_15 : decode cX0_isAhead 15 = .ok (.aload_n 0, 1) := by decide +kernel
theorem dX0_isAhead_16 : decode cX0_isAhead 16 = .ok (.getfield 9, 3) := by decide +kernel
theorem dX0_isAhead_19 : decode cX0_isAhead 19 = .ok (.iload_n 1, 1) := by decide +kernel
theorem dX0_isAhead_20 : decode cX0_isAhead 20 = .ok (.iaload, 1) := by decide +kernel
theorem dX0_isAhead_21 : decode cX0_isAhead 21 = .ok (.aload_n 0, 1) := by decide +kernel
theorem dX0_isAhead_22 : decode cX0_isAhead 22 = .ok (.getfield 9, 3) := by decide +kernel
theorem dX0_isAhead_25 : decode cX0_isAhead 25 = .ok (.iload_n 2, 1) := by decide +kernel
theorem dX0_isAhead_26 : decode cX0_isAhead 26 = .ok (.iaload, 1) := by decide +kernel
theorem dX0_isAhead_27 : decode cX0_isAhead 27 = .ok (.if_icmp .ne 12, 3) := by decide +kernel
theorem dX0_isAhead_30 : decode cX0_isAhead 30 = .ok (.iload_n 1, 1) := by decide +kernel
theorem dX0_isAhead_31 : decode cX0_isAhead 31 = .ok (.iload_n 2, 1) := by decide +kernel
theorem dX0_isAhead_32 : decode cX0_isAhead 32 = .ok (.if_icmp .ge 7, 3) := by decide +kernel
theorem dX0_isAhead_35 : decode cX0_isAhead 35 = .ok (.iconst 1, 1) := by decide +kernel
theorem dX0_isAhead_36 : decode cX0_isAhead 36 = .ok (.goto 4, 3) := by decide +kernel
theorem dX0_isAhead_39 : decode cX0_isAhead 39 = .ok (.iconst 0, 1) := by decide +kernel
theorem dX0_isAhead_40 : decode cX0_isAhead 40 = .ok (.ireturn, 1) := by decide +kernel
set_option maxRecDepth 20000 in
theorem ggX0_mineOfAll_X3_has : GoodIn wsX0_mineOfAll wsX3_has := goodIn_r _ [4] (by decide +kernel) (by decide +kernel)
set_option maxRecDepth 20000 in
theorem gX0_mineOfAll_X3_has_n34 : GoodIn wsX0_mineOfAll (wsX3_has) := ggX0_mineOfAll_X3_has
set_option maxRecDepth 20000 in
theorem ggX0_mineOfAll_X0_setOf : GoodIn wsX0_mineOfAll wsX0_setOf := goodIn_r _ [9, 10, 11, 12, 13, 14, 15] (by decide +kernel) (by decide +kernel)
set_option maxRecDepth 20000 in
theorem gX0_mineOfAll_X0_setOf : GoodIn wsX0_mineOfAll (wsV RX0 30 RX0 yX0_setOf wsX0_setOf) := goodIn_app (goodIn_of _ (by decide +kernel)) ggX0_mineOfAll_X0_setOf
theorem dX0_mineOfAll_0 : decode cX0_mineOfAll 0 = .ok (.iconst 0, 1) := by decide +kernel
theorem dX0_mineOfAll_1 : decode cX0_mineOfAll 1 = .ok (.istore_n 3, 1) := by decide +kernel
theorem dX0_mineOfAll_2 : decode cX0_mineOfAll 2 = .ok (.iconst 0, 1) := by decide +kernel
theorem dX0_mineOfAll_3 : decode cX0_mineOfAll 3 = .ok (.istore 4, 2) := by decide +kernel
theorem dX0_mineOfAll_5 : decode cX0_mineOfAll 5 = .ok (.iload 4, 2) := by decide +kernel
theorem dX0_mineOfAll_7 : decode cX0_mineOfAll 7 = .ok (.aload_n 0, 1) := by decide +kernel
theorem dX0_mineOfAll_8 : decode cX0_mineOfAll 8 = .ok (.getfield 26, 3) := by decide +kernel
theorem dX0_mineOfAll_11 : decode cX0_mineOfAll 11 = .ok (.if_icmp .ge 29, 3) := by decide +kernel
theorem dX0_mineOfAll_14 : decode cX0_mineOfAll 14 = .ok (.iload_n 1, 1) := by decide +kernel
theorem dX0_mineOfAll_15 : decode cX0_mineOfAll 15 = .ok (.iload 4, 2) := by decide +kernel
theorem dX0_mineOfAll_17 : decode cX0_mineOfAll 17 = .ok (.invokestatic 34, 3) := by decide +kernel
theorem dX0_mineOfAll_20 : decode cX0_mineOfAll 20 = .ok (.ifCond .eq 14, 3) := by decide +kernel
theorem dX0_mineOfAll_23 : decode cX0_mineOfAll 23 = .ok (.iload_n 3, 1) := by decide +kernel
theorem dX0_mineOfAll_24 : decode cX0_mineOfAll 24 = .ok (.aload_n 0, 1) := by decide +kernel
theorem dX0_mineOfAll_25 : decode cX0_mineOfAll 25 = .ok (.iload 4, 2) := by decide +kernel
theorem dX0_mineOfAll_27 : decode cX0_mineOfAll 27 = .ok (.iconst 0, 1) := by decide +kernel
theorem dX0_mineOfAll_28 : decode cX0_mineOfAll 28 = .ok (.iload_n 2, 1) := by decide +kernel
theorem dX0_mineOfAll_29 : decode cX0_mineOfAll 29 = .ok (.invokevirtual 30, 3) := by decide +kernel
theorem dX0_mineOfAll_32 : decode cX0_mineOfAll 32 = .ok (.ior, 1) := by decide +kernel
theorem dX0_mineOfAll_33 : decode cX0_mineOfAll 33 = .ok (.istore_n 3, 1) := by decide +kernel
theorem dX0_mineOfAll_34 : decode cX0_mineOfAll 34 = .ok (.iinc 4 1, 3) := by decide +kernel
theorem dX0_mineOfAll_37 : decode cX0_mineOfAll 37 = .ok (.goto (-32), 3) := by decide +kernel
theorem dX0_mineOfAll_40 : decode cX0_mineOfAll 40 = .ok (.iload_n 3, 1) := by decide +kernel
theorem dX0_mineOfAll_41 : decode cX0_mineOfAll 41 = .ok (.ireturn, 1) := by decide +kernel
theorem dX1_init_0 : decode cX1_init 0 = .ok (.aload_n 0, 1) := by decide +kernel
theorem dX1_init_1 : decode cX1_init 1 = .ok (.invokespecial 3, 3) := by decide +kernel
theorem dX1_init_4 : decode cX1_init 4 = .ok (.aload_n 0, 1) := by decide +kernel
theorem dX1_init_5 : decode cX1_init 5 = .ok (.bipush 24, 2) := by decide +kernel
theorem dX1_init_7 : decode cX1_init 7 = .ok (.newarray .int, 2) := by decide +kernel
theorem dX1_init_9 : decode cX1_init 9 = .ok (.putfield 9, 3) := by decide +kernel
theorem dX1_init_12 : decode cX1_init 12 = .ok (.aload_n 0, 1) := by decide +kernel
theorem dX1_init_13 : decode cX1_init 13 = .ok (.bipush 24, 2) := by decide +kernel
theorem dX1_init_15 : decode cX1_init 15 = .ok (.newarray .int, 2) := by decide +kernel
theorem dX1_init_17 : decode cX1_init 17 = .ok (.putfield 15, 3) := by decide +kernel
theorem dX1_init_20 : decode cX1_init 20 = .ok (.iconst 0, 1) := by decide +kernel
theorem dX1_init_21 : decode cX1_init 21 = .ok (.istore_n 1, 1) := by decide +kernel
theorem dX1_init_22 : decode cX1_init 22 = .ok (.iload_n 1, 1) := by decide +kernel
theorem dX1_init_23 : decode cX1_init 23 = .ok (.bipush 24, 2) := by decide +kernel
theorem dX1_init_25 : decode cX1_init 25 = .ok (.if_icmp .ge 18, 3) := by decide +kernel
theorem dX1_init_28 : decode cX1_init 28 = .ok (.aload_n 0, 1) := by decide +kernel
theorem dX1_init_29 : decode cX1_init 29 = .ok (.getfield 15, 3) := by decide +kernel
theorem dX1_init_32 : decode cX1_init 32 = .ok (.iload_n 1, 1) := by decide +kernel
theorem dX1_init_33 : decode cX1_init 33 = .ok (.iconst 1, 1) := by decide +kernel
theorem dX1_init_34 : decode cX1_init 34 = .ok (.iload_n 1, 1) := by decide +kernel
theorem dX1_init_35 : decode cX1_init 35 = .ok (.ishl, 1) := by decide +kernel
theorem dX1_init_36 : decode cX1_init 36 = .ok (.iastore, 1) := by decide +kernel
theorem dX1_init_37 : decode cX1_init 37 = .ok (.iinc 1 1, 3) := by decide +kernel
theorem dX1_init_40 : decode cX1_init 40 = .ok (.goto (-18), 3) := by decide +kernel
theorem dX1_init_43 : decode cX1_init 43 = .ok (.return_, 1) := by decide +kernel
set_option maxRecDepth 20000 in
theorem ggX1_areLinked_X3_has : GoodIn wsX1_areLinked wsX3_has := goodIn_r _ [4] (by decide +kernel) (by decide +kernel)
set_option maxRecDepth 20000 in
theorem gX1_areLinked_X3_has_n18 : GoodIn wsX1_areLinked (wsX3_has) := ggX1_areLinked_X3_has
theorem dX1_areLinked_0 : decode cX1_areLinked 0 = .ok (.aload_n 0, 1) := by decide +kernel
theorem dX1_areLinked_1 : decode cX1_areLinked 1 = .ok (.getfield 9, 3) := by decide +kernel
theorem dX1_areLinked_4 : decode cX1_areLinked 4 = .ok (.iload_n 1, 1) := by decide +kernel
theorem dX1_areLinked_5 : decode cX1_areLinked 5 = .ok (.iaload, 1) := by decide +kernel
theorem dX1_areLinked_6 : decode cX1_areLinked 6 = .ok (.iload_n 2, 1) := by decide +kernel
theorem dX1_areLinked_7 : decode cX1_areLinked 7 = .ok (.invokestatic 18, 3) := by decide +kernel
theorem dX1_areLinked_10 : decode cX1_areLinked 10 = .ok (.ireturn, 1) := by decide +kernel
set_option maxRecDepth 20000 in
theorem ggX1_areTogether_X3_has : GoodIn wsX1_areTogether wsX3_has := goodIn_r _ [4] (by decide +kernel) (by decide +kernel)
set_option maxRecDepth 20000 in
theorem gX1_areTogether_X3_has_n18 : GoodIn wsX1_areTogether (wsX3_has) := ggX1_areTogether_X3_has
theorem dX1_areTogether_0 : decode cX1_areTogether 0 = .ok (.aload_n 0, 1) := by decide +kernel
theorem dX1_areTogether_1 : decode cX1_areTogether 1 = .ok (.getfield 15, 3) := by decide +kernel
theorem dX1_areTogether_4 : decode cX1_areTogether 4 = .ok (.iload_n 1, 1) := by decide +kernel
theorem dX1_areTogether_5 : decode cX1_areTogether 5 = .ok (.iaload, 1) := by decide +kernel
theorem dX1_areTogether_6 : decode cX1_areTogether 6 = .ok (.iload_n 2, 1) := by decide +kernel
theorem dX1_areTogether_7 : decode cX1_areTogether 7 = .ok (.invokestatic 18, 3) := by decide +kernel
theorem dX1_areTogether_10 : decode cX1_areTogether 10 = .ok (.ireturn, 1) := by decide +kernel
theorem dX1_groupOf_0 : decode cX1_groupOf 0 = .ok (.aload_n 0, 1) := by decide +kernel
theorem dX1_groupOf_1 : decode cX1_groupOf 1 = .ok (.getfield 15, 3) := by decide +kernel
theorem dX1_groupOf_4 : decode cX1_groupOf 4 = .ok (.iload_n 1, 1) := by decide +kernel
theorem dX1_groupOf_5 : decode cX1_groupOf 5 = .ok (.iaload, 1) := by decide +kernel
theorem dX1_groupOf_6 : decode cX1_groupOf 6 = .ok (.ireturn, 1) := by decide +kernel
theorem dX1_isLowestOfGroup_0 : decode cX1_isLowestOfGroup 0 = .ok (.iconst 1, 1) := by decide +kernel
theorem dX1_isLowestOfGroup_1 : decode cX1_isLowestOfGroup 1 = .ok (.iload_n 1, 1) := by decide +kernel
theorem dX1_isLowestOfGroup_2 : decode cX1_isLowestOfGroup 2 = .ok (.ishl, 1) := by decide +kernel
theorem dX1_isLowestOfGroup_3 : decode cX1_isLowestOfGroup 3 = .ok (.iconst 1, 1) := by decide +kernel
theorem dX1_isLowestOfGroup_4 : decode cX1_isLowestOfGroup 4 = .ok (.isub, 1) := by decide +kernel
theorem dX1_isLowestOfGroup_5 : decode cX1_isLowestOfGroup 5 = .ok (.istore_n 2, 1) := by decide +kernel
theorem dX1_isLowestOfGroup_6 : decode cX1_isLowestOfGroup 6 = .ok (.aload_n 0, 1) := by decide +kernel
theorem dX1_isLowestOfGroup_7 : decode cX1_isLowestOfGroup 7 = .ok (.getfield 15, 3) := by decide +kernel
theorem dX1_isLowestOfGroup_10 : decode cX1_isLowestOfGroup 10 = .ok (.iload_n 1, 1) := by decide +kernel
theorem dX1_isLowestOfGroup_11 : decode cX1_isLowestOfGroup 11 = .ok (.iaload, 1) := by decide +kernel
theorem dX1_isLowestOfGroup_12 : decode cX1_isLowestOfGroup 12 = .ok (.iload_n 2, 1) := by decide +kernel
theorem dX1_isLowestOfGroup_13 : decode cX1_isLowestOfGroup 13 = .ok (.iand, 1) := by decide +kernel
theorem dX1_isLowestOfGroup_14 : decode cX1_isLowestOfGroup 14 = .ok (.ifCond .ne 7, 3) := by decide +kernel
theorem dX1_isLowestOfGroup_17 : decode cX1_isLowestOfGroup 17 = .ok (.iconst 1, 1) := by decide +kernel
theorem dX1_isLowestOfGroup_18 : decode cX1_isLowestOfGroup 18 = .ok (.goto 4, 3) := by decide +kernel
theorem dX1_isLowestOfGroup_21 : decode cX1_isLowestOfGroup 21 = .ok (.iconst 0, 1) := by decide +kernel
theorem dX1_isLowestOfGroup_22 : decode cX1_isLowestOfGroup 22 = .ok (.ireturn, 1) := by decide +kernel
set_option maxRecDepth 20000 in
theorem ggX1_connect_X1_putGroup : GoodIn wsX1_connect wsX1_putGroup := goodIn_r _ [7, 2, 8, 9, 10, 11, 12] (by decide +kernel) (by decide +kernel)
set_option maxRecDepth 20000 in
theorem gX1_connect_X1_putGroup : GoodIn wsX1_connect (wsV RX1 22 RX1 yX1_putGroup wsX1_putGroup) := goodIn_app (goodIn_of _ (by decide +kernel)) ggX1_connect_X1_putGroup
theorem dX1_connect_0 : decode cX1_connect 0 = .ok (.aload_n 0, 1) := by decide +kernel
theorem dX1_connect_1 : decode cX1_connect 1 = .ok (.getfield 9, 3) := by decide +kernel
theorem dX1_connect_4 : decode cX1_connect 4 = .ok (.iload_n 1, 1) := by decide +kernel
theorem dX1_connect_5 : decode cX1_connect 5 = .ok (.dup2, 1) := by decide +kernel
theorem dX1_connect_6 : decode cX1_connect 6 = .ok (.iaload, 1) := by decide +kernel
theorem dX1_connect_7 : decode cX1_connect 7 = .ok (.iconst 1, 1) := by decide +kernel
theorem dX1_connect_8 : decode cX1_connect 8 = .ok (.iload_n 2, 1) := by decide +kernel
theorem dX1_connect_9 : decode cX1_connect 9 = .ok (.ishl, 1) := by decide +kernel
theorem dX1_connect_10 : decode cX1_connect 10 = .ok (.ior, 1) := by decide +kernel
theorem dX1_connect_11 : decode cX1_connect 11 = .ok (.iastore, 1) := by decide +kernel
theorem dX1_connect_12 : decode cX1_connect 12 = .ok (.aload_n 0, 1) := by decide +kernel
theorem dX1_connect_13 : decode cX1_connect 13 = .ok (.getfield 9, 3) := by decide +kernel
theorem dX1_connect_16 : decode cX1_connect 16 = .ok (.iload_n 2, 1) := by decide +kernel
theorem dX1_connect_17 : decode cX1_connect 17 = .ok (.dup2, 1) := by decide +kernel
theorem dX1_connect_18 : decode cX1_connect 18 = .ok (.iaload, 1) := by decide +kernel
theorem dX1_connect_19 : decode cX1_connect 19 = .ok (.iconst 1, 1) := by decide +kernel
theorem dX1_connect_20 : decode cX1_connect 20 = .ok (.iload_n 1, 1) := by decide +kernel
theorem dX1_connect_21 : decode cX1_connect 21 = .ok (.ishl, 1) := by decide +kernel
theorem dX1_connect_22 : decode cX1_connect 22 = .ok (.ior, 1) := by decide +kernel
theorem dX1_connect_23 : decode cX1_connect 23 = .ok (.iastore, 1) := by decide +kernel
theorem dX1_connect_24 : decode cX1_connect 24 = .ok (.aload_n 0, 1) := by decide +kernel
theorem dX1_connect_25 : decode cX1_connect 25 = .ok (.aload_n 0, 1) := by decide +kernel
theorem dX1_connect_26 : decode cX1_connect 26 = .ok (.getfield 15, 3) := by decide +kernel
theorem dX1_connect_29 : decode cX1_connect 29 = .ok (.iload_n 1, 1) := by decide +kernel
theorem dX1_connect_30 : decode cX1_connect 30 = .ok (.iaload, 1) := by decide +kernel
theorem dX1_connect_31 : decode cX1_connect 31 = .ok (.aload_n 0, 1) := by decide +kernel
theorem dX1_connect_32 : decode cX1_connect 32 = .ok (.getfield 15, 3) := by decide +kernel
theorem dX1_connect_35 : decode cX1_connect 35 = .ok (.iload_n 2, 1) := by decide +kernel
theorem dX1_connect_36 : decode cX1_connect 36 = .ok (.iaload, 1) := by decide +kernel
theorem dX1_connect_37 : decode cX1_connect 37 = .ok (.ior, 1) := by decide +kernel
theorem dX1_connect_38 : decode cX1_connect 38 = .ok (.invokevirtual 22, 3) := by decide +kernel
theorem dX1_connect_41 : decode cX1_connect 41 = .ok (.return_, 1) := by decide +kernel
set_option maxRecDepth 20000 in
theorem ggX1_disconnect_X1_reachedFrom : GoodIn wsX1_disconnect wsX1_reachedFrom := goodIn_r _ [6, 7, 8, 9, 5, 10, 1, 11, 12, 13, 19, 20] (by decide +kernel) (by decide +kernel)
set_option maxRecDepth 20000 in
theorem gX1_disconnect_X1_reachedFrom : GoodIn wsX1_disconnect (wsV RX1 26 RX1 yX1_reachedFrom wsX1_reachedFrom) := goodIn_app (goodIn_of _ (by decide +kernel)) ggX1_disconnect_X1_reachedFrom
set_option maxRecDepth 20000 in
theorem ggX1_disconnect_X1_putGroup : GoodIn wsX1_disconnect wsX1_putGroup := goodIn_r _ [17, 18, 11, 12, 13, 19, 20] (by decide +kernel) (by decide +kernel)
set_option maxRecDepth 20000 in
theorem gX1_disconnect_X1_putGroup : GoodIn wsX1_disconnect (wsV RX1 22 RX1 yX1_putGroup wsX1_putGroup) := goodIn_app (goodIn_of _ (by decide +kernel)) ggX1_disconnect_X1_putGroup
theorem dX1_disconnect_0 : decode cX1_disconnect 0 = .ok (.aload_n 0, 1) := by decide +kernel
theorem dX1_disconnect_1 : decode cX1_disconnect 1 = .ok (.getfield 9, 3) := by decide +kernel
theorem dX1_disconnect_4 : decode cX1_disconnect 4 = .ok (.iload_n 1, 1) := by decide +kernel
theorem dX1_disconnect_5 : decode cX1_disconnect 5 = .ok (.dup2, 1) := by decide +kernel
theorem dX1_disconnect_6 : decode cX1_disconnect 6 = .ok (.iaload, 1) := by decide +kernel
theorem dX1_disconnect_7 : decode cX1_disconnect 7 = .ok (.iconst 1, 1) := by decide +kernel
theorem dX1_disconnect_8 : decode cX1_disconnect 8 = .ok (.iload_n 2, 1) := by decide +kernel
theorem dX1_disconnect_9 : decode cX1_disconnect 9 = .ok (.ishl, 1) := by decide +kernel
theorem dX1_disconnect_10 : decode cX1_disconnect 10 = .ok (.iconst (-1), 1) := by decide +kernel
theorem dX1_disconnect_11 : decode cX1_disconnect 11 = .ok (.ixor, 1) := by decide +kernel
theorem dX1_disconnect_12 : decode cX1_disconnect 12 = .ok (.iand, 1) := by decide +kernel
theorem dX1_disconnect_13 : decode cX1_disconnect 13 = .ok (.iastore, 1) := by decide +kernel
theorem dX1_disconnect_14 : decode cX1_disconnect 14 = .ok (.aload_n 0, 1) := by decide +kernel
theorem dX1_disconnect_15 : decode cX1_disconnect 15 = .ok (.getfield 9, 3) := by decide +kernel
theorem dX1_disconnect_18 : decode cX1_disconnect 18 = .ok (.iload_n 2, 1) := by decide +kernel
theorem dX1_disconnect_19 : decode cX1_disconnect 19 = .ok (.dup2, 1) := by decide +kernel
theorem dX1_disconnect_20 : decode cX1_disconnect 20 = .ok (.iaload, 1) := by decide +kernel
theorem dX1_disconnect_21 : decode cX1_disconnect 21 = .ok (.iconst 1, 1) := by decide +kernel
theorem dX1_disconnect_22 : decode cX1_disconnect 22 = .ok (.iload_n 1, 1) := by decide +kernel
theorem dX1_disconnect_23 : decode cX1_disconnect 23 = .ok (.ishl, 1) := by decide +kernel
theorem dX1_disconnect_24 : decode cX1_disconnect 24 = .ok (.iconst (-1), 1) := by decide +kernel
theorem dX1_disconnect_25 : decode cX1_disconnect 25 = .ok (.ixor, 1) := by decide +kernel
theorem dX1_disconnect_26 : decode cX1_disconnect 26 = .ok (.iand, 1) := by decide +kernel
theorem dX1_disconnect_27 : decode cX1_disconnect 27 = .ok (.iastore, 1) := by decide +kernel
theorem dX1_disconnect_28 : decode cX1_disconnect 28 = .ok (.aload_n 0, 1) := by decide +kernel
theorem dX1_disconnect_29 : decode cX1_disconnect 29 = .ok (.aload_n 0, 1) := by decide +kernel
theorem dX1_disconnect_30 : decode cX1_disconnect 30 = .ok (.iload_n 1, 1) := by decide +kernel
theorem dX1_disconnect_31 : decode cX1_disconnect 31 = .ok (.invokevirtual 26, 3) := by decide +kernel
theorem dX1_disconnect_34 : decode cX1_disconnect 34 = .ok (.invokevirtual 22, 3) := by decide +kernel
theorem dX1_disconnect_37 : decode cX1_disconnect 37 = .ok (.aload_n 0, 1) := by decide +kernel
theorem dX1_disconnect_38 : decode cX1_disconnect 38 = .ok (.aload_n 0, 1) := by decide +kernel
theorem dX1_disconnect_39 : decode cX1_disconnect 39 = .ok (.iload_n 2, 1) := by decide +kernel
theorem dX1_disconnect_40 : decode cX1_disconnect 40 = .ok (.invokevirtual 26, 3) := by decide +kernel
theorem dX1_disconnect_43 : decode cX1_disconnect 43 = .ok (.invokevirtual 22, 3) := by decide +kernel
theorem dX1_disconnect_46 : decode cX1_disconnect 46 = .ok (.return_, 1) := by decide +kernel
set_option maxRecDepth 20000 in
theorem ggX1_putGroup_X3_has : GoodIn wsX1_putGroup wsX3_has := goodIn_r _ [4] (by decide +kernel) (by decide +kernel)
set_option maxRecDepth 20000 in
theorem gX1_putGroup_X3_has_n18 : GoodIn wsX1_putGroup (wsX3_has) := ggX1_putGroup_X3_has
theorem dX1_putGroup_0 : decode cX1_putGroup 0 = .ok (.iconst 0, 1) := by decide +kernel
theorem dX1_putGroup_1 : decode cX1_putGroup 1 = .ok (.istore_n 2, 1) := by decide +kernel
theorem dX1_putGroup_2 : decode cX1_putGroup 2 = .ok (.iload_n 2, 1) := by decide +kernel
theorem dX1_putGroup_3 : decode cX1_putGroup 3 = .ok (.bipush 24, 2) := by decide +kernel
theorem dX1_putGroup_5 : decode cX1_putGroup 5 = .ok (.if_icmp .ge 24, 3) := by decide +kernel
theorem dX1_putGroup_8 : decode cX1_putGroup 8 = .ok (.iload_n 1, 1) := by decide +kernel
theorem dX1_putGroup_9 : decode cX1_putGroup 9 = .ok (.iload_n 2, 1) := by decide +kernel
theorem dX1_putGroup_10 : decode cX1_putGroup 10 = .ok (.invokestatic 18, 3) := by decide +kernel
theorem dX1_putGroup_13 : decode cX1_putGroup 13 = .ok (.ifCond .eq 10, 3) := by decide +kernel
theorem dX1_putGroup_16 : decode cX1_putGroup 16 = .ok (.aload_n 0, 1) := by decide +kernel
theorem dX1_putGroup_17 : decode cX1_putGroup 17 = .ok (.getfield 15, 3) := by decide +kernel
theorem dX1_putGroup_20 : decode cX1_putGroup 20 = .ok (.iload_n 2, 1) := by decide +kernel
theorem dX1_putGroup_21 : decode cX1_putGroup 21 = .ok (.iload_n 1, 1) := by decide +kernel
theorem dX1_putGroup_22 : decode cX1_putGroup 22 = .ok (.iastore, 1) := by decide +kernel
theorem dX1_putGroup_23 : decode cX1_putGroup 23 = .ok (.iinc 2 1, 3) := by decide +kernel
theorem dX1_putGroup_26 : decode cX1_putGroup 26 = .ok (.goto (-24), 3) := by decide +kernel
theorem dX1_putGroup_29 : decode cX1_putGroup 29 = .ok (.return_, 1) := by decide +kernel
set_option maxRecDepth 20000 in
theorem ggX1_reachedFrom_X1_linkedToAny : GoodIn wsX1_reachedFrom wsX1_linkedToAny := goodIn_r _ [5, 6, 7, 8, 9, 10, 11] (by decide +kernel) (by decide +kernel)
set_option maxRecDepth 20000 in
theorem gX1_reachedFrom_X1_linkedToAny : GoodIn wsX1_reachedFrom (wsV RX1 30 RX1 yX1_linkedToAny wsX1_linkedToAny) := goodIn_app (goodIn_of _ (by decide +kernel)) ggX1_reachedFrom_X1_linkedToAny
theorem dX1_reachedFrom_0 : decode cX1_reachedFrom 0 = .ok (.iconst 1, 1) := by decide +kernel
theorem dX1_reachedFrom_1 : decode cX1_reachedFrom 1 = .ok (.iload_n 1, 1) := by decide +kernel
theorem dX1_reachedFrom_2 : decode cX1_reachedFrom 2 = .ok (.ishl, 1) := by decide +kernel
theorem dX1_reachedFrom_3 : decode cX1_reachedFrom 3 = .ok (.istore_n 2, 1) := by decide +kernel
theorem dX1_reachedFrom_4 : decode cX1_reachedFrom 4 = .ok (.iconst 0, 1) := by decide +kernel
theorem dX1_reachedFrom_5 : decode cX1_reachedFrom 5 = .ok (.istore_n 3, 1) := by decide +kernel
theorem dX1_reachedFrom_6 : decode cX1_reachedFrom 6 = .ok (.iload_n 3, 1) := by decide +kernel
theorem dX1_reachedFrom_7 : decode cX1_reachedFrom 7 = .ok (.bipush 24, 2) := by decide +kernel
theorem dX1_reachedFrom_9 : decode cX1_reachedFrom 9 = .ok (.if_icmp .ge 17, 3) := by decide +kernel
theorem dX1_reachedFrom_12 : decode cX1_reachedFrom 12 = .ok (.iload_n 2, 1) := by decide +kernel
theorem dX1_reachedFrom_13 : decode cX1_reachedFrom 13 = .ok (.aload_n 0, 1) := by decide +kernel
theorem dX1_reachedFrom_14 : decode cX1_reachedFrom 14 = .ok (.iload_n 2, 1) := by decide +kernel
theorem dX1_reachedFrom_15 : decode cX1_reachedFrom 15 = .ok (.invokevirtual 30, 3) := by decide +kernel
theorem dX1_reachedFrom_18 : decode cX1_reachedFrom 18 = .ok (.ior, 1) := by decide +kernel
theorem dX1_reachedFrom_19 : decode cX1_reachedFrom 19 = .ok (.istore_n 2, 1) := by decide +kernel
theorem dX1_reachedFrom_20 : decode cX1_reachedFrom 20 = .ok (.iinc 3 1, 3) := by decide +kernel
theorem dX1_reachedFrom_23 : decode cX1_reachedFrom 23 = .ok (.goto (-17), 3) := by decide +kernel
theorem dX1_reachedFrom_26 : decode cX1_reachedFrom 26 = .ok (.iload_n 2, 1) := by decide +kernel
theorem dX1_reachedFrom_27 : decode cX1_reachedFrom 27 = .ok (.ireturn, 1) := by decide +kernel
set_option maxRecDepth 20000 in
theorem ggX1_linkedToAny_X3_has : GoodIn wsX1_linkedToAny wsX3_has := goodIn_r _ [4] (by decide +kernel) (by decide +kernel)
set_option maxRecDepth 20000 in
theorem gX1_linkedToAny_X3_has_n18 : GoodIn wsX1_linkedToAny (wsX3_has) := ggX1_linkedToAny_X3_has
theorem dX1_linkedToAny_0 : decode cX1_linkedToAny 0 = .ok (.iconst 0, 1) := by decide +kernel
theorem dX1_linkedToAny_1 : decode cX1_linkedToAny 1 = .ok (.istore_n 2, 1) := by decide +kernel
theorem dX1_linkedToAny_2 : decode cX1_linkedToAny 2 = .ok (.iconst 0, 1) := by decide +kernel
theorem dX1_linkedToAny_3 : decode cX1_linkedToAny 3 = .ok (.istore_n 3, 1) := by decide +kernel
theorem dX1_linkedToAny_4 : decode cX1_linkedToAny 4 = .ok (.iload_n 3, 1) := by decide +kernel
theorem dX1_linkedToAny_5 : decode cX1_linkedToAny 5 = .ok (.bipush 24, 2) := by decide +kernel
theorem dX1_linkedToAny_7 : decode cX1_linkedToAny 7 = .ok (.if_icmp .ge 26, 3) := by decide +kernel
theorem dX1_linkedToAny_10 : decode cX1_linkedToAny 10 = .ok (.iload_n 1, 1) := by decide +kernel
theorem dX1_linkedToAny_11 : decode cX1_linkedToAny 11 = .ok (.iload_n 3, 1) := by decide +kernel
theorem dX1_linkedToAny_12 : decode cX1_linkedToAny 12 = .ok (.invokestatic 18, 3) := by decide +kernel
theorem dX1_linkedToAny_15 : decode cX1_linkedToAny 15 = .ok (.ifCond .eq 12, 3) := by decide +kernel
theorem dX1_linkedToAny_18 : decode cX1_linkedToAny 18 = .ok (.iload_n 2, 1) := by decide +kernel
theorem dX1_linkedToAny_19 : decode cX1_linkedToAny 19 = .ok (.aload_n 0, 1) := by decide +kernel
theorem dX1_linkedToAny_20 : decode cX1_linkedToAny 20 = .ok (.getfield 9, 3) := by decide +kernel
theorem dX1_linkedToAny_23 : decode cX1_linkedToAny 23 = .ok (.iload_n 3, 1) := by decide +kernel
theorem dX1_linkedToAny_24 : decode cX1_linkedToAny 24 = .ok (.iaload, 1) := by decide +kernel
theorem dX1_linkedToAny_25 : decode cX1_linkedToAny 25 = .ok (.ior, 1) := by decide +kernel
theorem dX1_linkedToAny_26 : decode cX1_linkedToAny 26 = .ok (.istore_n 2, 1) := by decide +kernel
theorem dX1_linkedToAny_27 : decode cX1_linkedToAny 27 = .ok (.iinc 3 1, 3) := by decide +kernel
theorem dX1_linkedToAny_30 : decode cX1_linkedToAny 30 = .ok (.goto (-26), 3) := by decide +kernel
theorem dX1_linkedToAny_33 : decode cX1_linkedToAny 33 = .ok (.iload_n 2, 1) := by decide +kernel
theorem dX1_linkedToAny_34 : decode cX1_linkedToAny 34 = .ok (.ireturn, 1) := by decide +kernel
theorem dX2_init_0 : decode cX2_init 0 = .ok (.aload_n 0, 1) := by decide +kernel
theorem dX2_init_1 : decode cX2_init 1 = .ok (.invokespecial 3, 3) := by decide +kernel
theorem dX2_init_4 : decode cX2_init 4 = .ok (.aload_n 0, 1) := by decide +kernel
theorem dX2_init_5 : decode cX2_init 5 = .ok (.bipush 24, 2) := by decide +kernel
theorem dX2_init_7 : decode cX2_init 7 = .ok (.newarray .int, 2) := by decide +kernel
theorem dX2_init_9 : decode cX2_init 9 = .ok (.putfield 9, 3) := by decide +kernel
theorem dX2_init_12 : decode cX2_init 12 = .ok (.aload_n 0, 1) := by decide +kernel
theorem dX2_init_13 : decode cX2_init 13 = .ok (.bipush 24, 2) := by decide +kernel
theorem dX2_init_15 : decode cX2_init 15 = .ok (.bipush 24, 2) := by decide +kernel
theorem dX2_init_17 : decode cX2_init 17 = .ok (.multianewarray 15 2, 4) := by decide +kernel
theorem dX2_init_21 : decode cX2_init 21 = .ok (.putfield 17, 3) := by decide +kernel
theorem dX2_init_24 : decode cX2_init 24 = .ok (.iconst 0, 1) := by decide +kernel
theorem dX2_init_25 : decode cX2_init 25 = .ok (.istore_n 1, 1) := by decide +kernel
theorem dX2_init_26 : decode cX2_init 26 = .ok (.iload_n 1, 1) := by decide +kernel
theorem dX2_init_27 : decode cX2_init 27 = .ok (.bipush 24, 2) := by decide +kernel
theorem dX2_init_29 : decode cX2_init 29 = .ok (.if_icmp .ge 32, 3) := by decide +kernel
theorem dX2_init_32 : decode cX2_init 32 = .ok (.iconst 0, 1) := by decide +kernel
theorem dX2_init_33 : decode cX2_init 33 = .ok (.istore_n 2, 1) := by decide +kernel
theorem dX2_init_34 : decode cX2_init 34 = .ok (.iload_n 2, 1) := by decide +kernel
theorem dX2_init_35 : decode cX2_init 35 = .ok (.bipush 24, 2) := by decide +kernel
theorem dX2_init_37 : decode cX2_init 37 = .ok (.if_icmp .ge 18, 3) := by decide +kernel
theorem dX2_init_40 : decode cX2_init 40 = .ok (.aload_n 0, 1) := by decide +kernel
theorem dX2_init_41 : decode cX2_init 41 = .ok (.getfield 17, 3) := by decide +kernel
theorem dX2_init_44 : decode cX2_init 44 = .ok (.iload_n 1, 1) := by decide +kernel
theorem dX2_init_45 : decode cX2_init 45 = .ok (.aaload, 1) := by decide +kernel
theorem dX2_init_46 : decode cX2_init 46 = .ok (.iload_n 2, 1) := by decide +kernel
theorem dX2_init_47 : decode cX2_init 47 = .ok (.iconst (-1), 1) := by decide +kernel
theorem dX2_init_48 : decode cX2_init 48 = .ok (.iastore, 1) := by decide +kernel
theorem dX2_init_49 : decode cX2_init 49 = .ok (.iinc 2 1, 3) := by decide +kernel
theorem dX2_init_52 : decode cX2_init 52 = .ok (.goto (-18), 3) := by decide +kernel
theorem dX2_init_55 : decode cX2_init 55 = .ok (.iinc 1 1, 3) := by decide +kernel
theorem dX2_init_58 : decode cX2_init 58 = .ok (.goto (-32), 3) := by decide +kernel
theorem dX2_init_61 : decode cX2_init 61 = .ok (.return_, 1) := by decide +kernel
theorem dX2_refuseForGood_0 : decode cX2_refuseForGood 0 = .ok (.aload_n 0, 1) := by decide +kernel
theorem dX2_refuseForGood_1 : decode cX2_refuseForGood 1 = .ok (.getfield 9, 3) := by decide +kernel
theorem dX2_refuseForGood_4 : decode cX2_refuseForGood 4 = .ok (.iload_n 1, 1) := by decide +kernel
theorem dX2_refuseForGood_5 : decode cX2_refuseForGood 5 = .ok (.dup2, 1) := by decide +kernel
theorem dX2_refuseForGood_6 : decode cX2_refuseForGood 6 = .ok (.iaload, 1) := by decide +kernel
theorem dX2_refuseForGood_7 : decode cX2_refuseForGood 7 = .ok (.iconst 1, 1) := by decide +kernel
theorem dX2_refuseForGood_8 : decode cX2_refuseForGood 8 = .ok (.iload_n 2, 1) := by decide +kernel
theorem dX2_refuseForGood_9 : decode cX2_refuseForGood 9 = .ok (.ishl, 1) := by decide +kernel
theorem dX2_refuseForGood_10 : decode cX2_refuseForGood 10 = .ok (.ior, 1) := by decide +kernel
theorem dX2_refuseForGood_11 : decode cX2_refuseForGood 11 = .ok (.iastore, 1) := by decide +kernel
theorem dX2_refuseForGood_12 : decode cX2_refuseForGood 12 = .ok (.aload_n 0, 1) := by decide +kernel
theorem dX2_refuseForGood_13 : decode cX2_refuseForGood 13 = .ok (.getfield 9, 3) := by decide +kernel
theorem dX2_refuseForGood_16 : decode cX2_refuseForGood 16 = .ok (.iload_n 2, 1) := by decide +kernel
theorem dX2_refuseForGood_17 : decode cX2_refuseForGood 17 = .ok (.dup2, 1) := by decide +kernel
theorem dX2_refuseForGood_18 : decode cX2_refuseForGood 18 = .ok (.iaload, 1) := by decide +kernel
theorem dX2_refuseForGood_19 : decode cX2_refuseForGood 19 = .ok (.iconst 1, 1) := by decide +kernel
theorem dX2_refuseForGood_20 : decode cX2_refuseForGood 20 = .ok (.iload_n 1, 1) := by decide +kernel
theorem dX2_refuseForGood_21 : decode cX2_refuseForGood 21 = .ok (.ishl, 1) := by decide +kernel
theorem dX2_refuseForGood_22 : decode cX2_refuseForGood 22 = .ok (.ior, 1) := by decide +kernel
theorem dX2_refuseForGood_23 : decode cX2_refuseForGood 23 = .ok (.iastore, 1) := by decide +kernel
theorem dX2_refuseForGood_24 : decode cX2_refuseForGood 24 = .ok (.return_, 1) := by decide +kernel
theorem dX2_refuseForNow_0 : decode cX2_refuseForNow 0 = .ok (.aload_n 0, 1) := by decide +kernel
theorem dX2_refuseForNow_1 : decode cX2_refuseForNow 1 = .ok (.getfield 17, 3) := by decide +kernel
theorem dX2_refuseForNow_4 : decode cX2_refuseForNow 4 = .ok (.iload_n 1, 1) := by decide +kernel
theorem dX2_refuseForNow_5 : decode cX2_refuseForNow 5 = .ok (.aaload, 1) := by decide +kernel
theorem dX2_refuseForNow_6 : decode cX2_refuseForNow 6 = .ok (.iload_n 2, 1) := by decide +kernel
theorem dX2_refuseForNow_7 : decode cX2_refuseForNow 7 = .ok (.iload_n 3, 1) := by decide +kernel
theorem dX2_refuseForNow_8 : decode cX2_refuseForNow 8 = .ok (.iastore, 1) := by decide +kernel
theorem dX2_refuseForNow_9 : decode cX2_refuseForNow 9 = .ok (.aload_n 0, 1) := by decide +kernel
theorem dX2_refuseForNow_10 : decode cX2_refuseForNow 10 = .ok (.getfield 17, 3) := by decide +kernel
theorem dX2_refuseForNow_13 : decode cX2_refuseForNow 13 = .ok (.iload_n 2, 1) := by decide +kernel
theorem dX2_refuseForNow_14 : decode cX2_refuseForNow 14 = .ok (.aaload, 1) := by decide +kernel
theorem dX2_refuseForNow_15 : decode cX2_refuseForNow 15 = .ok (.iload_n 1, 1) := by decide +kernel
theorem dX2_refuseForNow_16 : decode cX2_refuseForNow 16 = .ok (.iload_n 3, 1) := by decide +kernel
theorem dX2_refuseForNow_17 : decode cX2_refuseForNow 17 = .ok (.iastore, 1) := by decide +kernel
theorem dX2_refuseForNow_18 : decode cX2_refuseForNow 18 = .ok (.return_, 1) := by decide +kernel
set_option maxRecDepth 20000 in
theorem ggX2_stands_X3_has : GoodIn wsX2_stands wsX3_has := goodIn_r _ [5] (by decide +kernel) (by decide +kernel)
set_option maxRecDepth 20000 in
theorem gX2_stands_X3_has_n20 : GoodIn wsX2_stands (wsX3_has) := ggX2_stands_X3_has
theorem dX2_stands_0 : decode cX2_stands 0 = .ok (.aload_n 0, 1) := by decide +kernel
theorem dX2_stands_1 : decode cX2_stands 1 = .ok (.getfield 9, 3) := by decide +kernel
theorem dX2_stands_4 : decode cX2_stands 4 = .ok (.iload_n 1, 1) := by decide +kernel
theorem dX2_stands_5 : decode cX2_stands 5 = .ok (.iaload, 1) := by decide +kernel
theorem dX2_stands_6 : decode cX2_stands 6 = .ok (.iload_n 2, 1) := by decide +kernel
theorem dX2_stands_7 : decode cX2_stands 7 = .ok (.invokestatic 20, 3) := by decide +kernel
theorem dX2_stands_10 : decode cX2_stands 10 = .ok (.ifCond .ne 15, 3) := by decide +kernel
theorem dX2_stands_13 : decode cX2_stands 13 = .ok (.aload_n 0, 1) := by decide +kernel
theorem dX2_stands_14 : decode cX2_stands 14 = .ok (.getfield 17, 3) := by decide +kernel
theorem dX2_stands_17 : decode cX2_stands 17 = .ok (.iload_n 1, 1) := by decide +kernel
theorem dX2_stands_18 : decode cX2_stands 18 = .ok (.aaload, 1) := by decide +kernel
theorem dX2_stands_19 : decode cX2_stands 19 = .ok (.iload_n 2, 1) := by decide +kernel
theorem dX2_stands_20 : decode cX2_stands 20 = .ok (.iaload, 1) := by decide +kernel
theorem dX2_stands_21 : decode cX2_stands 21 = .ok (.iload_n 3, 1) := by decide +kernel
theorem dX2_stands_22 : decode cX2_stands 22 = .ok (.if_icmp .ne 7, 3) := by decide +kernel
theorem dX2_stands_25 : decode cX2_stands 25 = .ok (.iconst 1, 1) := by decide +kernel
theorem dX2_stands_26 : decode cX2_stands 26 = .ok (.goto 4, 3) := by decide +kernel
theorem dX2_stands_29 : decode cX2_stands 29 = .ok (.iconst 0, 1) := by decide +kernel
theorem dX2_stands_30 : decode cX2_stands 30 = .ok (.ireturn, 1) := by decide +kernel
set_option maxRecDepth 20000 in
theorem ggX3_init_X0_init : GoodIn wsX3_init wsX0_init := goodIn_r _ [20, 21, 2, 3, 16, 22, 23, 24, 25, 26, 27, 41, 42, 43, 44, 45] (by decide +kernel) (by decide +kernel)
set_option maxRecDepth 20000 in
theorem gX3_init_X0_init : GoodIn wsX3_init (wsX0_init) := ggX3_init_X0_init
set_option maxRecDepth 20000 in
theorem ggX3_init_X1_init : GoodIn wsX3_init wsX1_init := goodIn_r _ [30, 31, 2, 3, 16, 32, 33, 50, 51] (by decide +kernel) (by decide +kernel)
set_option maxRecDepth 20000 in
theorem gX3_init_X1_init : GoodIn wsX3_init (wsX1_init) := ggX3_init_X1_init
set_option maxRecDepth 20000 in
theorem ggX3_init_X2_init : GoodIn wsX3_init wsX2_init := goodIn_r _ [36, 37, 2, 3, 16, 38, 39, 40, 52, 53] (by decide +kernel) (by decide +kernel)
set_option maxRecDepth 20000 in
theorem gX3_init_X2_init : GoodIn wsX3_init (wsX2_init) := ggX3_init_X2_init
theorem dX3_init_0 : decode cX3_init 0 = .ok (.aload_n 0, 1) := by decide +kernel
theorem dX3_init_1 : decode cX3_init 1 = .ok (.invokespecial 3, 3) := by decide +kernel
theorem dX3_init_4 : decode cX3_init 4 = .ok (.aload_n 0, 1) := by decide +kernel
theorem dX3_init_5 : decode cX3_init 5 = .ok (.new 9, 3) := by decide +kernel
theorem dX3_init_8 : decode cX3_init 8 = .ok (.dup, 1) := by decide +kernel
theorem dX3_init_9 : decode cX3_init 9 = .ok (.invokespecial 11, 3) := by decide +kernel
theorem dX3_init_12 : decode cX3_init 12 = .ok (.putfield 12, 3) := by decide +kernel
theorem dX3_init_15 : decode cX3_init 15 = .ok (.aload_n 0, 1) := by decide +kernel
theorem dX3_init_16 : decode cX3_init 16 = .ok (.new 16, 3) := by decide +kernel
theorem dX3_init_19 : decode cX3_init 19 = .ok (.dup, 1) := by decide +kernel
theorem dX3_init_20 : decode cX3_init 20 = .ok (.invokespecial 18, 3) := by decide +kernel
theorem dX3_init_23 : decode cX3_init 23 = .ok (.putfield 19, 3) := by decide +kernel
theorem dX3_init_26 : decode cX3_init 26 = .ok (.aload_n 0, 1) := by decide +kernel
theorem dX3_init_27 : decode cX3_init 27 = .ok (.new 23, 3) := by decide +kernel
theorem dX3_init_30 : decode cX3_init 30 = .ok (.dup, 1) := by decide +kernel
theorem dX3_init_31 : decode cX3_init 31 = .ok (.invokespecial 25, 3) := by decide +kernel
theorem dX3_init_34 : decode cX3_init 34 = .ok (.putfield 26, 3) := by decide +kernel
theorem dX3_init_37 : decode cX3_init 37 = .ok (.aload_n 0, 1) := by decide +kernel
theorem dX3_init_38 : decode cX3_init 38 = .ok (.sipush 153, 3) := by decide +kernel
theorem dX3_init_41 : decode cX3_init 41 = .ok (.newarray .int, 2) := by decide +kernel
theorem dX3_init_43 : decode cX3_init 43 = .ok (.putfield 30, 3) := by decide +kernel
theorem dX3_init_46 : decode cX3_init 46 = .ok (.return_, 1) := by decide +kernel
set_option maxRecDepth 20000 in
theorem ggX3_add_X3_checkBook : GoodIn wsX3_add wsX3_checkBook := goodIn_ca (goodIn_r _ [8, 9, 10] (by decide +kernel) (by decide +kernel)) (goodIn_sub (fun _ h => List.mem_cons_of_mem _ (List.mem_append_left _ (List.mem_append_right _ h))) (by decide +kernel))
set_option maxRecDepth 20000 in
theorem gX3_add_X3_checkBook : GoodIn wsX3_add (wsV RX3 34 RX3 yX3_checkBook wsX3_checkBook) := goodIn_app (goodIn_of _ (by decide +kernel)) ggX3_add_X3_checkBook
set_option maxRecDepth 20000 in
theorem ggX3_add_X3_isName : GoodIn wsX3_add wsX3_isName := goodIn_r _ [13] (by decide +kernel) (by decide +kernel)
set_option maxRecDepth 20000 in
theorem gX3_add_X3_isName : GoodIn wsX3_add (va_wsS RX3 38 yX3_isName wsX3_isName) := goodIn_app (goodIn_of _ (by decide +kernel)) ggX3_add_X3_isName
set_option maxRecDepth 20000 in
theorem ggX3_add_X3_checkArgument : GoodIn wsX3_add wsX3_checkArgument := goodIn_ca (goodIn_r _ [16, 17, 18] (by decide +kernel) (by decide +kernel)) (goodIn_sub (fun _ h => List.mem_cons_of_mem _ (List.mem_append_right _ h)) (by decide +kernel))
set_option maxRecDepth 20000 in
theorem gX3_add_X3_checkArgument : GoodIn wsX3_add (va_wsS RX3 42 yX3_checkArgument wsX3_checkArgument) := goodIn_app (goodIn_of _ (by decide +kernel)) ggX3_add_X3_checkArgument
set_option maxRecDepth 20000 in
theorem ggX3_add_X0_append : GoodIn wsX3_add wsX0_append := goodIn_r _ [23, 24, 25, 26, 31, 32, 33, 34, 35] (by decide +kernel) (by decide +kernel)
set_option maxRecDepth 20000 in
theorem gX3_add_X0_append : GoodIn wsX3_add (wsV RX3 57 RX0 yX0_append wsX0_append) := goodIn_app (goodIn_of _ (by decide +kernel)) ggX3_add_X0_append
theorem dX3_add_0 : decode cX3_add 0 = .ok (.aload_n 0, 1) := by decide +kernel
theorem dX3_add_1 : decode cX3_add 1 = .ok (.iload_n 1, 1) := by decide +kernel
theorem dX3_add_2 : decode cX3_add 2 = .ok (.invokevirtual 34, 3) := by decide +kernel
theorem dX3_add_5 : decode cX3_add 5 = .ok (.iload_n 2, 1) := by decide +kernel
theorem dX3_add_6 : decode cX3_add 6 = .ok (.invokestatic 38, 3) := by decide +kernel
theorem dX3_add_9 : decode cX3_add 9 = .ok (.invokestatic 42, 3) := by decide +kernel
theorem dX3_add_12 : decode cX3_add 12 = .ok (.aload_n 0, 1) := by decide +kernel
theorem dX3_add_13 : decode cX3_add 13 = .ok (.getfield 12, 3) := by decide +kernel
theorem dX3_add_16 : decode cX3_add 16 = .ok (.getfield 46, 3) := by decide +kernel
theorem dX3_add_19 : decode cX3_add 19 = .ok (.bipush 24, 2) := by decide +kernel
theorem dX3_add_21 : decode cX3_add 21 = .ok (.if_icmp .lt 13, 3) := by decide +kernel
theorem dX3_add_24 : decode cX3_add 24 = .ok (.new 50, 3) := by decide +kernel
theorem dX3_add_27 : decode cX3_add 27 = .ok (.dup, 1) := by decide +kernel
theorem dX3_add_28 : decode cX3_add 28 = .ok (.ldc 52, 2) := by decide +kernel
theorem dX3_add_30 : decode cX3_add 30 = .ok (.invokespecial 54, 3) := by decide +kernel
theorem dX3_add_33 : decode cX3_add 33 = .ok (.athrow, 1) := by decide +kernel
theorem dX3_add_34 : decode cX3_add 34 = .ok (.aload_n 0, 1) := by decide +kernel
theorem dX3_add_35 : decode cX3_add 35 = .ok (.getfield 12, 3) := by decide +kernel
theorem dX3_add_38 : decode cX3_add 38 = .ok (.iload_n 1, 1) := by decide +kernel
theorem dX3_add_39 : decode cX3_add 39 = .ok (.iload_n 2, 1) := by decide +kernel
theorem dX3_add_40 : decode cX3_add 40 = .ok (.invokevirtual 57, 3) := by decide +kernel
theorem dX3_add_43 : decode cX3_add 43 = .ok (.ireturn, 1) := by decide +kernel
set_option maxRecDepth 20000 in
theorem ggX3_turn_X3_checkCard : GoodIn wsX3_turn wsX3_checkCard := goodIn_ca (goodIn_r _ [6, 7, 8, 1, 38, 39, 40, 41, 42, 43, 44, 45, 46] (by decide +kernel) (by decide +kernel)) (goodIn_sub (fun _ h => List.mem_cons_of_mem _ (List.mem_append_left _ (List.mem_append_right _ h))) (by decide +kernel))
set_option maxRecDepth 20000 in
theorem gX3_turn_X3_checkCard : GoodIn wsX3_turn (wsV RX3 61 RX3 yX3_checkCard wsX3_checkCard) := goodIn_app (goodIn_of _ (by decide +kernel)) ggX3_turn_X3_checkCard
set_option maxRecDepth 20000 in
theorem ggX3_turn_X3_isChangeable : GoodIn wsX3_turn wsX3_isChangeable := goodIn_r _ [11] (by decide +kernel) (by decide +kernel)
set_option maxRecDepth 20000 in
theorem gX3_turn_X3_isChangeable : GoodIn wsX3_turn (va_wsS RX3 64 yX3_isChangeable wsX3_isChangeable) := goodIn_app (goodIn_of _ (by decide +kernel)) ggX3_turn_X3_isChangeable
set_option maxRecDepth 20000 in
theorem ggX3_turn_X3_isKind : GoodIn wsX3_turn wsX3_isKind := goodIn_r _ [14] (by decide +kernel) (by decide +kernel)
set_option maxRecDepth 20000 in
theorem gX3_turn_X3_isKind : GoodIn wsX3_turn (va_wsS RX3 67 yX3_isKind wsX3_isKind) := goodIn_app (goodIn_of _ (by decide +kernel)) ggX3_turn_X3_isKind
set_option maxRecDepth 20000 in
theorem ggX3_turn_X3_isValue : GoodIn wsX3_turn wsX3_isValue := goodIn_r _ [17] (by decide +kernel) (by decide +kernel)
set_option maxRecDepth 20000 in
theorem gX3_turn_X3_isValue : GoodIn wsX3_turn (va_wsS RX3 70 yX3_isValue wsX3_isValue) := goodIn_app (goodIn_of _ (by decide +kernel)) ggX3_turn_X3_isValue
set_option maxRecDepth 20000 in
theorem ggX3_turn_X3_checkArgument : GoodIn wsX3_turn wsX3_checkArgument := goodIn_ca (goodIn_r _ [20, 21, 22] (by decide +kernel) (by decide +kernel)) (goodIn_sub (fun _ h => List.mem_cons_of_mem _ (List.mem_append_right _ h)) (by decide +kernel))
set_option maxRecDepth 20000 in
theorem gX3_turn_X3_checkArgument : GoodIn wsX3_turn (va_wsS RX3 42 yX3_checkArgument wsX3_checkArgument) := goodIn_app (goodIn_of _ (by decide +kernel)) ggX3_turn_X3_checkArgument
set_option maxRecDepth 20000 in
theorem ggX3_turn_X0_setOf : GoodIn wsX3_turn wsX0_setOf := goodIn_r _ [27, 28, 42, 43, 44, 45, 46] (by decide +kernel) (by decide +kernel)
set_option maxRecDepth 20000 in
theorem gX3_turn_X0_setOf : GoodIn wsX3_turn (wsV RX3 73 RX0 yX0_setOf wsX0_setOf) := goodIn_app (goodIn_of _ (by decide +kernel)) ggX3_turn_X0_setOf
set_option maxRecDepth 20000 in
theorem ggX3_turn_X0_putSet : GoodIn wsX3_turn wsX0_putSet := goodIn_r _ [32, 33, 28, 34, 24, 25, 26, 27, 42, 43, 44, 45, 46] (by decide +kernel) (by decide +kernel)
set_option maxRecDepth 20000 in
theorem gX3_turn_X0_putSet : GoodIn wsX3_turn (wsV RX3 77 RX0 yX0_putSet wsX0_putSet) := goodIn_app (goodIn_of _ (by decide +kernel)) ggX3_turn_X0_putSet
set_option maxRecDepth 20000 in
theorem ggX3_turn_X3_has : GoodIn wsX3_turn wsX3_has := goodIn_r _ [37] (by decide +kernel) (by decide +kernel)
set_option maxRecDepth 20000 in
theorem gX3_turn_X3_has : GoodIn wsX3_turn (va_wsS RX3 81 yX3_has wsX3_has) := goodIn_app (goodIn_of _ (by decide +kernel)) ggX3_turn_X3_has
theorem dX3_turn_0 : decode cX3_turn 0 = .ok (.aload_n 0, 1) := by decide +kernel
theorem dX3_turn_1 : decode cX3_turn 1 = .ok (.iload_n 1, 1) := by decide +kernel
theorem dX3_turn_2 : decode cX3_turn 2 = .ok (.invokevirtual 61, 3) := by decide +kernel
theorem dX3_turn_5 : decode cX3_turn 5 = .ok (.iload_n 2, 1) := by decide +kernel
theorem dX3_turn_6 : decode cX3_turn 6 = .ok (.invokestatic 64, 3) := by decide +kernel
theorem dX3_turn_9 : decode cX3_turn 9 = .ok (.ifCond .eq 22, 3) := by decide +kernel
theorem dX3_turn_12 : decode cX3_turn 12 = .ok (.iload_n 3, 1) := by decide +kernel
theorem dX3_turn_13 : decode cX3_turn 13 = .ok (.invokestatic 67, 3) := by decide +kernel
theorem dX3_turn_16 : decode cX3_turn 16 = .ok (.ifCond .eq 15, 3) := by decide +kernel
theorem dX3_turn_19 : decode cX3_turn 19 = .ok (.iload 4, 2) := by decide +kernel
theorem dX3_turn_21 : decode cX3_turn 21 = .ok (.invokestatic 70, 3) := by decide +kernel
theorem dX3_turn_24 : decode cX3_turn 24 = .ok (.ifCond .eq 7, 3) := by decide +kernel
theorem dX3_turn_27 : decode cX3_turn 27 = .ok (.iconst 1, 1) := by decide +kernel
theorem dX3_turn_28 : decode cX3_turn 28 = .ok (.goto 4, 3) := by decide +kernel
theorem dX3_turn_31 : decode cX3_turn 31 = .ok (.iconst 0, 1) := by decide +kernel
theorem dX3_turn_32 : decode cX3_turn 32 = .ok (.invokestatic 42, 3) := by decide +kernel
theorem dX3_turn_35 : decode cX3_turn 35 = .ok (.aload_n 0, 1) := by decide +kernel
theorem dX3_turn_36 : decode cX3_turn 36 = .ok (.getfield 12, 3) := by decide +kernel
theorem dX3_turn_39 : decode cX3_turn 39 = .ok (.iload_n 1, 1) := by decide +kernel
theorem dX3_turn_40 : decode cX3_turn 40 = .ok (.iload_n 2, 1) := by decide +kernel
theorem dX3_turn_41 : decode cX3_turn 41 = .ok (.iload_n 3, 1) := by decide +kernel
theorem dX3_turn_42 : decode cX3_turn 42 = .ok (.invokevirtual 73, 3) := by decide +kernel
theorem dX3_turn_45 : decode cX3_turn 45 = .ok (.iconst 1, 1) := by decide +kernel
theorem dX3_turn_46 : decode cX3_turn 46 = .ok (.iload 4, 2) := by decide +kernel
theorem dX3_turn_48 : decode cX3_turn 48 = .ok (.ishl, 1) := by decide +kernel
theorem dX3_turn_49 : decode cX3_turn 49 = .ok (.ixor, 1) := by decide +kernel
theorem dX3_turn_50 : decode cX3_turn 50 = .ok (.istore 5, 2) := by decide +kernel
theorem dX3_turn_52 : decode cX3_turn 52 = .ok (.aload_n 0, 1) := by decide +kernel
theorem dX3_turn_53 : decode cX3_turn 53 = .ok (.getfield 12, 3) := by decide +kernel
theorem dX3_turn_56 : decode cX3_turn 56 = .ok (.iload_n 1, 1) := by decide +kernel
theorem dX3_turn_57 : decode cX3_turn 57 = .ok (.iload_n 2, 1) := by decide +kernel
theorem dX3_turn_58 : decode cX3_turn 58 = .ok (.iload_n 3, 1) := by decide +kernel
theorem dX3_turn_59 : decode cX3_turn 59 = .ok (.iload 5, 2) := by decide +kernel
theorem dX3_turn_61 : decode cX3_turn 61 = .ok (.invokevirtual 77, 3) := by decide +kernel
theorem dX3_turn_64 : decode cX3_turn 64 = .ok (.iload 5, 2) := by decide +kernel
theorem dX3_turn_66 : decode cX3_turn 66 = .ok (.iload 4, 2) := by decide +kernel
theorem dX3_turn_68 : decode cX3_turn 68 = .ok (.invokestatic 81, 3) := by decide +kernel
theorem dX3_turn_71 : decode cX3_turn 71 = .ok (.ireturn, 1) := by decide +kernel
set_option maxRecDepth 20000 in
theorem ggX3_rename_X3_checkCard : GoodIn wsX3_rename wsX3_checkCard := goodIn_ca (goodIn_r _ [6, 7, 8, 1, 31, 32, 33, 34, 35, 36, 37, 38, 39] (by decide +kernel) (by decide +kernel)) (goodIn_sub (fun _ h => List.mem_cons_of_mem _ (List.mem_append_left _ (List.mem_append_right _ h))) (by decide +kernel))
set_option maxRecDepth 20000 in
theorem gX3_rename_X3_checkCard : GoodIn wsX3_rename (wsV RX3 61 RX3 yX3_checkCard wsX3_checkCard) := goodIn_app (goodIn_of _ (by decide +kernel)) ggX3_rename_X3_checkCard
set_option maxRecDepth 20000 in
theorem ggX3_rename_X3_isChangeable : GoodIn wsX3_rename wsX3_isChangeable := goodIn_r _ [11] (by decide +kernel) (by decide +kernel)
set_option maxRecDepth 20000 in
theorem gX3_rename_X3_isChangeable : GoodIn wsX3_rename (va_wsS RX3 64 yX3_isChangeable wsX3_isChangeable) := goodIn_app (goodIn_of _ (by decide +kernel)) ggX3_rename_X3_isChangeable
set_option maxRecDepth 20000 in
theorem ggX3_rename_X3_isName : GoodIn wsX3_rename wsX3_isName := goodIn_r _ [14] (by decide +kernel) (by decide +kernel)
set_option maxRecDepth 20000 in
theorem gX3_rename_X3_isName : GoodIn wsX3_rename (va_wsS RX3 38 yX3_isName wsX3_isName) := goodIn_app (goodIn_of _ (by decide +kernel)) ggX3_rename_X3_isName
set_option maxRecDepth 20000 in
theorem ggX3_rename_X3_checkArgument : GoodIn wsX3_rename wsX3_checkArgument := goodIn_ca (goodIn_r _ [17, 18, 19] (by decide +kernel) (by decide +kernel)) (goodIn_sub (fun _ h => List.mem_cons_of_mem _ (List.mem_append_right _ h)) (by decide +kernel))
set_option maxRecDepth 20000 in
theorem gX3_rename_X3_checkArgument : GoodIn wsX3_rename (va_wsS RX3 42 yX3_checkArgument wsX3_checkArgument) := goodIn_app (goodIn_of _ (by decide +kernel)) ggX3_rename_X3_checkArgument
set_option maxRecDepth 20000 in
theorem ggX3_rename_X0_nameIn : GoodIn wsX3_rename wsX0_nameIn := goodIn_r _ [24, 25, 35, 36, 37, 38, 39] (by decide +kernel) (by decide +kernel)
set_option maxRecDepth 20000 in
theorem gX3_rename_X0_nameIn : GoodIn wsX3_rename (wsV RX3 85 RX0 yX0_nameIn wsX0_nameIn) := goodIn_app (goodIn_of _ (by decide +kernel)) ggX3_rename_X0_nameIn
set_option maxRecDepth 20000 in
theorem ggX3_rename_X0_putName : GoodIn wsX3_rename wsX0_putName := goodIn_r _ [29, 25, 30, 35, 36, 37, 38, 39] (by decide +kernel) (by decide +kernel)
set_option maxRecDepth 20000 in
theorem gX3_rename_X0_putName : GoodIn wsX3_rename (wsV RX3 88 RX0 yX0_putName wsX0_putName) := goodIn_app (goodIn_of _ (by decide +kernel)) ggX3_rename_X0_putName
theorem dX3_rename_0 : decode cX3_rename 0 = .ok (.aload_n 0, 1) := by decide +kernel
theorem dX3_rename_1 : decode cX3_rename 1 = .ok (.iload_n 1, 1) := by decide +kernel
theorem dX3_rename_2 : decode cX3_rename 2 = .ok (.invokevirtual 61, 3) := by decide +kernel
theorem dX3_rename_5 : decode cX3_rename 5 = .ok (.iload_n 2, 1) := by decide +kernel
theorem dX3_rename_6 : decode cX3_rename 6 = .ok (.invokestatic 64, 3) := by decide +kernel
theorem dX3_rename_9 : decode cX3_rename 9 = .ok (.ifCond .eq 14, 3) := by decide +kernel
theorem dX3_rename_12 : decode cX3_rename 12 = .ok (.iload_n 3, 1) := by decide +kernel
theorem dX3_rename_13 : decode cX3_rename 13 = .ok (.invokestatic 38, 3) := by decide +kernel
theorem dX3_rename_16 : decode cX3_rename 16 = .ok (.ifCond .eq 7, 3) := by decide +kernel
theorem dX3_rename_19 : decode cX3_rename 19 = .ok (.iconst 1, 1) := by decide +kernel
theorem dX3_rename_20 : decode cX3_rename 20 = .ok (.goto 4, 3) := by decide +kernel
theorem dX3_rename_23 : decode cX3_rename 23 = .ok (.iconst 0, 1) := by decide +kernel
theorem dX3_rename_24 : decode cX3_rename 24 = .ok (.invokestatic 42, 3) := by decide +kernel
theorem dX3_rename_27 : decode cX3_rename 27 = .ok (.aload_n 0, 1) := by decide +kernel
theorem dX3_rename_28 : decode cX3_rename 28 = .ok (.getfield 12, 3) := by decide +kernel
theorem dX3_rename_31 : decode cX3_rename 31 = .ok (.iload_n 1, 1) := by decide +kernel
theorem dX3_rename_32 : decode cX3_rename 32 = .ok (.iload_n 2, 1) := by decide +kernel
theorem dX3_rename_33 : decode cX3_rename 33 = .ok (.invokevirtual 85, 3) := by decide +kernel
theorem dX3_rename_36 : decode cX3_rename 36 = .ok (.istore 4, 2) := by decide +kernel
theorem dX3_rename_38 : decode cX3_rename 38 = .ok (.aload_n 0, 1) := by decide +kernel
theorem dX3_rename_39 : decode cX3_rename 39 = .ok (.getfield 12, 3) := by decide +kernel
theorem dX3_rename_42 : decode cX3_rename 42 = .ok (.iload_n 1, 1) := by decide +kernel
theorem dX3_rename_43 : decode cX3_rename 43 = .ok (.iload_n 2, 1) := by decide +kernel
theorem dX3_rename_44 : decode cX3_rename 44 = .ok (.iload_n 3, 1) := by decide +kernel
theorem dX3_rename_45 : decode cX3_rename 45 = .ok (.invokevirtual 88, 3) := by decide +kernel
theorem dX3_rename_48 : decode cX3_rename 48 = .ok (.iload 4, 2) := by decide +kernel
theorem dX3_rename_50 : decode cX3_rename 50 = .ok (.ireturn, 1) := by decide +kernel
set_option maxRecDepth 20000 in
theorem ggX3_sync_X3_checkBook : GoodIn wsX3_sync wsX3_checkBook := goodIn_ca (goodIn_r _ [6, 7, 8] (by decide +kernel) (by decide +kernel)) (goodIn_sub (fun _ h => List.mem_cons_of_mem _ (List.mem_append_right _ h)) (by decide +kernel))
set_option maxRecDepth 20000 in
theorem gX3_sync_X3_checkBook : GoodIn wsX3_sync (wsV RX3 34 RX3 yX3_checkBook wsX3_checkBook) := goodIn_app (goodIn_of _ (by decide +kernel)) ggX3_sync_X3_checkBook
set_option maxRecDepth 20000 in
theorem ggX3_sync_X0_isIn : GoodIn wsX3_sync wsX0_isIn := goodIn_r _ [13, 14, 54, 55, 56, 57, 58] (by decide +kernel) (by decide +kernel)
set_option maxRecDepth 20000 in
theorem gX3_sync_X0_isIn : GoodIn wsX3_sync (wsV RX3 92 RX0 yX0_isIn wsX0_isIn) := goodIn_app (goodIn_of _ (by decide +kernel)) ggX3_sync_X0_isIn
set_option maxRecDepth 20000 in
theorem ggX3_sync_X0_namesClash : GoodIn wsX3_sync wsX0_namesClash := goodIn_r _ [18, 19, 20, 21, 12, 22, 23, 54, 55, 56, 57, 58] (by decide +kernel) (by decide +kernel)
set_option maxRecDepth 20000 in
theorem gX3_sync_X0_namesClash : GoodIn wsX3_sync (wsV RX3 95 RX0 yX0_namesClash wsX0_namesClash) := goodIn_app (goodIn_of _ (by decide +kernel)) ggX3_sync_X0_namesClash
set_option maxRecDepth 20000 in
theorem ggX3_sync_X0_mergeVersions : GoodIn wsX3_sync wsX0_mergeVersions := goodIn_r _ [27, 28, 29, 30, 12, 31, 19, 20, 21, 22, 23, 32, 33, 34, 35, 36, 37, 38, 39, 40, 41, 42, 43, 44, 45, 46, 47, 48, 49, 54, 55, 56, 57, 58] (by decide +kernel) (by decide +kernel)
set_option maxRecDepth 20000 in
theorem gX3_sync_X0_mergeVersions : GoodIn wsX3_sync (wsV RX3 98 RX0 yX0_mergeVersions wsX0_mergeVersions) := goodIn_app (goodIn_of _ (by decide +kernel)) ggX3_sync_X0_mergeVersions
theorem dX3_sync_0 : decode cX3_sync 0 = .ok (.aload_n 0, 1) := by decide +kernel
theorem dX3_sync_1 : decode cX3_sync 1 = .ok (.iload_n 1, 1) := by decide +kernel
theorem dX3_sync_2 : decode cX3_sync 2 = .ok (.invokevirtual 34, 3) := by decide +kernel
theorem dX3_sync_5 : decode cX3_sync 5 = .ok (.iconst 0, 1) := by decide +kernel
theorem dX3_sync_6 : decode cX3_sync 6 = .ok (.istore_n 2, 1) := by decide +kernel
theorem dX3_sync_7 : decode cX3_sync 7 = .ok (.iconst 0, 1) := by decide +kernel
theorem dX3_sync_8 : decode cX3_sync 8 = .ok (.istore_n 3, 1) := by decide +kernel
theorem dX3_sync_9 : decode cX3_sync 9 = .ok (.iload_n 3, 1) := by decide +kernel
theorem dX3_sync_10 : decode cX3_sync 10 = .ok (.aload_n 0, 1) := by decide +kernel
theorem dX3_sync_11 : decode cX3_sync 11 = .ok (.getfield 12, 3) := by decide +kernel
theorem dX3_sync_14 : decode cX3_sync 14 = .ok (.getfield 46, 3) := by decide +kernel
theorem dX3_sync_17 : decode cX3_sync 17 = .ok (.if_icmp .ge 43, 3) := by decide +kernel
theorem dX3_sync_20 : decode cX3_sync 20 = .ok (.aload_n 0, 1) := by decide +kernel
theorem dX3_sync_21 : decode cX3_sync 21 = .ok (.getfield 12, 3) := by decide +kernel
theorem dX3_sync_24 : decode cX3_sync 24 = .ok (.iload_n 3, 1) := by decide +kernel
theorem dX3_sync_25 : decode cX3_sync 25 = .ok (.iload_n 1, 1) := by decide +kernel
theorem dX3_sync_26 : decode cX3_sync 26 = .ok (.invokevirtual 92, 3) := by decide +kernel
theorem dX3_sync_29 : decode cX3_sync 29 = .ok (.ifCond .eq 25, 3) := by decide +kernel
theorem dX3_sync_32 : decode cX3_sync 32 = .ok (.aload_n 0, 1) := by decide +kernel
theorem dX3_sync_33 : decode cX3_sync 33 = .ok (.getfield 12, 3) := by decide +kernel
theorem dX3_sync_36 : decode cX3_sync 36 = .ok (.iload_n 3, 1) := by decide +kernel
theorem dX3_sync_37 : decode cX3_sync 37 = .ok (.invokevirtual 95, 3) := by decide +kernel
theorem dX3_sync_40 : decode cX3_sync 40 = .ok (.ifCond .eq 6, 3) := by decide +kernel
theorem dX3_sync_43 : decode cX3_sync 43 = .ok (.iinc 2 1, 3) := by decide +kernel
theorem dX3_sync_46 : decode cX3_sync 46 = .ok (.aload_n 0, 1) := by decide +kernel
theorem dX3_sync_47 : decode cX3_sync 47 = .ok (.getfield 12, 3) := by decide +kernel
theorem dX3_sync_50 : decode cX3_sync 50 = .ok (.iload_n 3, 1) := by decide +kernel
theorem dX3_sync_51 : decode cX3_sync 51 = .ok (.invokevirtual 98, 3) := by decide +kernel
theorem dX3_sync_54 : decode cX3_sync 54 = .ok (.iinc 3 1, 3) := by decide +kernel
theorem dX3_sync_57 : decode cX3_sync 57 = .ok (.goto (-48), 3) := by decide +kernel
theorem dX3_sync_60 : decode cX3_sync 60 = .ok (.iload_n 2, 1) := by decide +kernel
theorem dX3_sync_61 : decode cX3_sync 61 = .ok (.ireturn, 1) := by decide +kernel
theorem dX3_cards_0 : decode cX3_cards 0 = .ok (.aload_n 0, 1) := by decide +kernel
theorem dX3_cards_1 : decode cX3_cards 1 = .ok (.getfield 12, 3) := by decide +kernel
theorem dX3_cards_4 : decode cX3_cards 4 = .ok (.getfield 46, 3) := by decide +kernel
theorem dX3_cards_7 : decode cX3_cards 7 = .ok (.ireturn, 1) := by decide +kernel
set_option maxRecDepth 20000 in
theorem ggX3_values_X3_checkCard : GoodIn wsX3_values wsX3_checkCard := goodIn_ca (goodIn_r _ [6, 7, 8, 1, 29, 30, 31, 32, 33, 34, 35, 36, 37] (by decide +kernel) (by decide +kernel)) (goodIn_sub (fun _ h => List.mem_cons_of_mem _ (List.mem_append_left _ (List.mem_append_right _ h))) (by decide +kernel))
set_option maxRecDepth 20000 in
theorem gX3_values_X3_checkCard : GoodIn wsX3_values (wsV RX3 61 RX3 yX3_checkCard wsX3_checkCard) := goodIn_app (goodIn_of _ (by decide +kernel)) ggX3_values_X3_checkCard
set_option maxRecDepth 20000 in
theorem ggX3_values_X3_isVersion : GoodIn wsX3_values wsX3_isVersion := goodIn_r _ [11, 12, 13, 5, 14] (by decide +kernel) (by decide +kernel)
set_option maxRecDepth 20000 in
theorem gX3_values_X3_isVersion : GoodIn wsX3_values (va_wsS RX3 101 yX3_isVersion wsX3_isVersion) := goodIn_app (goodIn_of _ (by decide +kernel)) ggX3_values_X3_isVersion
set_option maxRecDepth 20000 in
theorem ggX3_values_X3_isKind : GoodIn wsX3_values wsX3_isKind := goodIn_r _ [17] (by decide +kernel) (by decide +kernel)
set_option maxRecDepth 20000 in
theorem gX3_values_X3_isKind : GoodIn wsX3_values (va_wsS RX3 67 yX3_isKind wsX3_isKind) := goodIn_app (goodIn_of _ (by decide +kernel)) ggX3_values_X3_isKind
set_option maxRecDepth 20000 in
theorem ggX3_values_X3_checkArgument : GoodIn wsX3_values wsX3_checkArgument := goodIn_ca (goodIn_r _ [20, 21, 22] (by decide +kernel) (by decide +kernel)) (goodIn_sub (fun _ h => List.mem_cons_of_mem _ (List.mem_append_right _ h)) (by decide +kernel))
set_option maxRecDepth 20000 in
theorem gX3_values_X3_checkArgument : GoodIn wsX3_values (va_wsS RX3 42 yX3_checkArgument wsX3_checkArgument) := goodIn_app (goodIn_of _ (by decide +kernel)) ggX3_values_X3_checkArgument
set_option maxRecDepth 20000 in
theorem ggX3_values_X0_setOf : GoodIn wsX3_values wsX0_setOf := goodIn_r _ [27, 28, 33, 34, 35, 36, 37] (by decide +kernel) (by decide +kernel)
set_option maxRecDepth 20000 in
theorem gX3_values_X0_setOf : GoodIn wsX3_values (wsV RX3 73 RX0 yX0_setOf wsX0_setOf) := goodIn_app (goodIn_of _ (by decide +kernel)) ggX3_values_X0_setOf
theorem dX3_values_0 : decode cX3_values 0 = .ok (.aload_n 0, 1) := by decide +kernel
theorem dX3_values_1 : decode cX3_values 1 = .ok (.iload_n 1, 1) := by decide +kernel
theorem dX3_values_2 : decode cX3_values 2 = .ok (.invokevirtual 61, 3) := by decide +kernel
theorem dX3_values_5 : decode cX3_values 5 = .ok (.iload_n 2, 1) := by decide +kernel
theorem dX3_values_6 : decode cX3_values 6 = .ok (.invokestatic 101, 3) := by decide +kernel
theorem dX3_values_9 : decode cX3_values 9 = .ok (.ifCond .eq 14, 3) := by decide +kernel
theorem dX3_values_12 : decode cX3_values 12 = .ok (.iload_n 3, 1) := by decide +kernel
theorem dX3_values_13 : decode cX3_values 13 = .ok (.invokestatic 67, 3) := by decide +kernel
theorem dX3_values_16 : decode cX3_values 16 = .ok (.ifCond .eq 7, 3) := by decide +kernel
theorem dX3_values_19 : decode cX3_values 19 = .ok (.iconst 1, 1) := by decide +kernel
theorem dX3_values_20 : decode cX3_values 20 = .ok (.goto 4, 3) := by decide +kernel
theorem dX3_values_23 : decode cX3_values 23 = .ok (.iconst 0, 1) := by decide +kernel
theorem dX3_values_24 : decode cX3_values 24 = .ok (.invokestatic 42, 3) := by decide +kernel
theorem dX3_values_27 : decode cX3_values 27 = .ok (.aload_n 0, 1) := by decide +kernel
theorem dX3_values_28 : decode cX3_values 28 = .ok (.getfield 12, 3) := by decide +kernel
theorem dX3_values_31 : decode cX3_values 31 = .ok (.iload_n 1, 1) := by decide +kernel
theorem dX3_values_32 : decode cX3_values 32 = .ok (.iload_n 2, 1) := by decide +kernel
theorem dX3_values_33 : decode cX3_values 33 = .ok (.iload_n 3, 1) := by decide +kernel
theorem dX3_values_34 : decode cX3_values 34 = .ok (.invokevirtual 73, 3) := by decide +kernel
theorem dX3_values_37 : decode cX3_values 37 = .ok (.ireturn, 1) := by decide +kernel
set_option maxRecDepth 20000 in
theorem ggX3_nameOf_X3_checkCard : GoodIn wsX3_nameOf wsX3_checkCard := goodIn_ca (goodIn_r _ [6, 7, 8, 1, 26, 27, 28, 29, 30, 31, 32, 33, 34] (by decide +kernel) (by decide +kernel)) (goodIn_sub (fun _ h => List.mem_cons_of_mem _ (List.mem_append_left _ (List.mem_append_right _ h))) (by decide +kernel))
set_option maxRecDepth 20000 in
theorem gX3_nameOf_X3_checkCard : GoodIn wsX3_nameOf (wsV RX3 61 RX3 yX3_checkCard wsX3_checkCard) := goodIn_app (goodIn_of _ (by decide +kernel)) ggX3_nameOf_X3_checkCard
set_option maxRecDepth 20000 in
theorem ggX3_nameOf_X3_isVersion : GoodIn wsX3_nameOf wsX3_isVersion := goodIn_r _ [11, 12, 13, 5, 14] (by decide +kernel) (by decide +kernel)
set_option maxRecDepth 20000 in
theorem gX3_nameOf_X3_isVersion : GoodIn wsX3_nameOf (va_wsS RX3 101 yX3_isVersion wsX3_isVersion) := goodIn_app (goodIn_of _ (by decide +kernel)) ggX3_nameOf_X3_isVersion
set_option maxRecDepth 20000 in
theorem ggX3_nameOf_X3_checkArgument : GoodIn wsX3_nameOf wsX3_checkArgument := goodIn_ca (goodIn_r _ [17, 18, 19] (by decide +kernel) (by decide +kernel)) (goodIn_sub (fun _ h => List.mem_cons_of_mem _ (List.mem_append_right _ h)) (by decide +kernel))
set_option maxRecDepth 20000 in
theorem gX3_nameOf_X3_checkArgument : GoodIn wsX3_nameOf (va_wsS RX3 42 yX3_checkArgument wsX3_checkArgument) := goodIn_app (goodIn_of _ (by decide +kernel)) ggX3_nameOf_X3_checkArgument
set_option maxRecDepth 20000 in
theorem ggX3_nameOf_X0_nameIn : GoodIn wsX3_nameOf wsX0_nameIn := goodIn_r _ [24, 25, 30, 31, 32, 33, 34] (by decide +kernel) (by decide +kernel)
set_option maxRecDepth 20000 in
theorem gX3_nameOf_X0_nameIn : GoodIn wsX3_nameOf (wsV RX3 85 RX0 yX0_nameIn wsX0_nameIn) := goodIn_app (goodIn_of _ (by decide +kernel)) ggX3_nameOf_X0_nameIn
theorem dX3_nameOf_0 : decode cX3_nameOf 0 = .ok (.aload_n 0, 1) := by decide +kernel
theorem dX3_nameOf_1 : decode cX3_nameOf 1 = .ok (.iload_n 1, 1) := by decide +kernel
theorem dX3_nameOf_2 : decode cX3_nameOf 2 = .ok (.invokevirtual 61, 3) := by decide +kernel
theorem dX3_nameOf_5 : decode cX3_nameOf 5 = .ok (.iload_n 2, 1) := by decide +kernel
theorem dX3_nameOf_6 : decode cX3_nameOf 6 = .ok (.invokestatic 101, 3) := by decide +kernel
theorem dX3_nameOf_9 : decode cX3_nameOf 9 = .ok (.invokestatic 42, 3) := by decide +kernel
theorem dX3_nameOf_12 : decode cX3_nameOf 12 = .ok (.aload_n 0, 1) := by decide +kernel
theorem dX3_nameOf_13 : decode cX3_nameOf 13 = .ok (.getfield 12, 3) := by decide +kernel
theorem dX3_nameOf_16 : decode cX3_nameOf 16 = .ok (.iload_n 1, 1) := by decide +kernel
theorem dX3_nameOf_17 : decode cX3_nameOf 17 = .ok (.iload_n 2, 1) := by decide +kernel
theorem dX3_nameOf_18 : decode cX3_nameOf 18 = .ok (.invokevirtual 85, 3) := by decide +kernel
theorem dX3_nameOf_21 : decode cX3_nameOf 21 = .ok (.ireturn, 1) := by decide +kernel
set_option maxRecDepth 20000 in
theorem ggX3_merged_X3_checkCard : GoodIn wsX3_merged wsX3_checkCard := goodIn_ca (goodIn_r _ [6, 7, 8, 1, 27, 28, 29, 30, 31, 32, 33, 34, 35] (by decide +kernel) (by decide +kernel)) (goodIn_sub (fun _ h => List.mem_cons_of_mem _ (List.mem_append_left _ (List.mem_append_right _ h))) (by decide +kernel))
set_option maxRecDepth 20000 in
theorem gX3_merged_X3_checkCard : GoodIn wsX3_merged (wsV RX3 61 RX3 yX3_checkCard wsX3_checkCard) := goodIn_app (goodIn_of _ (by decide +kernel)) ggX3_merged_X3_checkCard
set_option maxRecDepth 20000 in
theorem ggX3_merged_X3_isKind : GoodIn wsX3_merged wsX3_isKind := goodIn_r _ [11] (by decide +kernel) (by decide +kernel)
set_option maxRecDepth 20000 in
theorem gX3_merged_X3_isKind : GoodIn wsX3_merged (va_wsS RX3 67 yX3_isKind wsX3_isKind) := goodIn_app (goodIn_of _ (by decide +kernel)) ggX3_merged_X3_isKind
set_option maxRecDepth 20000 in
theorem ggX3_merged_X3_checkArgument : GoodIn wsX3_merged wsX3_checkArgument := goodIn_ca (goodIn_r _ [14, 15, 16] (by decide +kernel) (by decide +kernel)) (goodIn_sub (fun _ h => List.mem_cons_of_mem _ (List.mem_append_right _ h)) (by decide +kernel))
set_option maxRecDepth 20000 in
theorem gX3_merged_X3_checkArgument : GoodIn wsX3_merged (va_wsS RX3 42 yX3_checkArgument wsX3_checkArgument) := goodIn_app (goodIn_of _ (by decide +kernel)) ggX3_merged_X3_checkArgument
set_option maxRecDepth 20000 in
theorem ggX3_merged_X0_mergedSet : GoodIn wsX3_merged wsX0_mergedSet := goodIn_r _ [21, 22, 23, 24, 20, 25, 26, 31, 32, 33, 34, 35] (by decide +kernel) (by decide +kernel)
set_option maxRecDepth 20000 in
theorem gX3_merged_X0_mergedSet : GoodIn wsX3_merged (wsV RX3 104 RX0 yX0_mergedSet wsX0_mergedSet) := goodIn_app (goodIn_of _ (by decide +kernel)) ggX3_merged_X0_mergedSet
theorem dX3_merged_0 : decode cX3_merged 0 = .ok (.aload_n 0, 1) := by decide +kernel
theorem dX3_merged_1 : decode cX3_merged 1 = .ok (.iload_n 1, 1) := by decide +kernel
theorem dX3_merged_2 : decode cX3_merged 2 = .ok (.invokevirtual 61, 3) := by decide +kernel
theorem dX3_merged_5 : decode cX3_merged 5 = .ok (.iload_n 2, 1) := by decide +kernel
theorem dX3_merged_6 : decode cX3_merged 6 = .ok (.invokestatic 67, 3) := by decide +kernel
theorem dX3_merged_9 : decode cX3_merged 9 = .ok (.invokestatic 42, 3) := by decide +kernel
theorem dX3_merged_12 : decode cX3_merged 12 = .ok (.aload_n 0, 1) := by decide +kernel
theorem dX3_merged_13 : decode cX3_merged 13 = .ok (.getfield 12, 3) := by decide +kernel
theorem dX3_merged_16 : decode cX3_merged 16 = .ok (.iload_n 1, 1) := by decide +kernel
theorem dX3_merged_17 : decode cX3_merged 17 = .ok (.iload_n 2, 1) := by decide +kernel
theorem dX3_merged_18 : decode cX3_merged 18 = .ok (.invokevirtual 104, 3) := by decide +kernel
theorem dX3_merged_21 : decode cX3_merged 21 = .ok (.ireturn, 1) := by decide +kernel
set_option maxRecDepth 20000 in
theorem ggX3_mergedByValues_X3_checkCard : GoodIn wsX3_mergedByValues wsX3_checkCard := goodIn_ca (goodIn_r _ [6, 7, 8, 1, 29, 30, 31, 32, 33, 34, 35, 36, 37] (by decide +kernel) (by decide +kernel)) (goodIn_sub (fun _ h => List.mem_cons_of_mem _ (List.mem_append_left _ (List.mem_append_right _ h))) (by decide +kernel))
set_option maxRecDepth 20000 in
theorem gX3_mergedByValues_X3_checkCard : GoodIn wsX3_mergedByValues (wsV RX3 61 RX3 yX3_checkCard wsX3_checkCard) := goodIn_app (goodIn_of _ (by decide +kernel)) ggX3_mergedByValues_X3_checkCard
set_option maxRecDepth 20000 in
theorem ggX3_mergedByValues_X3_isKind : GoodIn wsX3_mergedByValues wsX3_isKind := goodIn_r _ [11] (by decide +kernel) (by decide +kernel)
set_option maxRecDepth 20000 in
theorem gX3_mergedByValues_X3_isKind : GoodIn wsX3_mergedByValues (va_wsS RX3 67 yX3_isKind wsX3_isKind) := goodIn_app (goodIn_of _ (by decide +kernel)) ggX3_mergedByValues_X3_isKind
set_option maxRecDepth 20000 in
theorem ggX3_mergedByValues_X3_checkArgument : GoodIn wsX3_mergedByValues wsX3_checkArgument := goodIn_ca (goodIn_r _ [14, 15, 16] (by decide +kernel) (by decide +kernel)) (goodIn_sub (fun _ h => List.mem_cons_of_mem _ (List.mem_append_right _ h)) (by decide +kernel))
set_option maxRecDepth 20000 in
theorem gX3_mergedByValues_X3_checkArgument : GoodIn wsX3_mergedByValues (va_wsS RX3 42 yX3_checkArgument wsX3_checkArgument) := goodIn_app (goodIn_of _ (by decide +kernel)) ggX3_mergedByValues_X3_checkArgument
set_option maxRecDepth 20000 in
theorem ggX3_mergedByValues_X0_mergedSetByValues : GoodIn wsX3_mergedByValues wsX0_mergedSetByValues := goodIn_r _ [21, 22, 23, 24, 20, 25, 26, 27, 5, 28, 33, 34, 35, 36, 37] (by decide +kernel) (by decide +kernel)
set_option maxRecDepth 20000 in
theorem gX3_mergedByValues_X0_mergedSetByValues : GoodIn wsX3_mergedByValues (wsV RX3 107 RX0 yX0_mergedSetByValues wsX0_mergedSetByValues) := goodIn_app (goodIn_of _ (by decide +kernel)) ggX3_mergedByValues_X0_mergedSetByValues
theorem dX3_mergedByValues_0 : decode cX3_mergedByValues 0 = .ok (.aload_n 0, 1) := by decide +kernel
theorem dX3_mergedByValues_1 : decode cX3_mergedByValues 1 = .ok (.iload_n 1, 1) := by decide +kernel
theorem dX3_mergedByValues_2 : decode cX3_mergedByValues 2 = .ok (.invokevirtual 61, 3) := by decide +kernel
theorem dX3_mergedByValues_5 : decode cX3_mergedByValues 5 = .ok (.iload_n 2, 1) := by decide +kernel
theorem dX3_mergedByValues_6 : decode cX3_mergedByValues 6 = .ok (.invokestatic 67, 3) := by decide +kernel
theorem dX3_mergedByValues_9 : decode cX3_mergedByValues 9 = .ok (.invokestatic 42, 3) := by decide +kernel
theorem dX3_mergedByValues_12 : decode cX3_mergedByValues 12 = .ok (.aload_n 0, 1) := by decide +kernel
theorem dX3_mergedByValues_13 : decode cX3_mergedByValues 13 = .ok (.getfield 12, 3) := by decide +kernel
theorem dX3_mergedByValues_16 : decode cX3_mergedByValues 16 = .ok (.iload_n 1, 1) := by decide +kernel
theorem dX3_mergedByValues_17 : decode cX3_mergedByValues 17 = .ok (.iload_n 2, 1) := by decide +kernel
theorem dX3_mergedByValues_18 : decode cX3_mergedByValues 18 = .ok (.invokevirtual 107, 3) := by decide +kernel
theorem dX3_mergedByValues_21 : decode cX3_mergedByValues 21 = .ok (.ireturn, 1) := by decide +kernel
set_option maxRecDepth 20000 in
theorem ggX3_unsynced_X3_checkBook : GoodIn wsX3_unsynced wsX3_checkBook := goodIn_ca (goodIn_r _ [6, 7, 8] (by decide +kernel) (by decide +kernel)) (goodIn_sub (fun _ h => List.mem_cons_of_mem _ (List.mem_append_right _ h)) (by decide +kernel))
set_option maxRecDepth 20000 in
theorem gX3_unsynced_X3_checkBook : GoodIn wsX3_unsynced (wsV RX3 34 RX3 yX3_checkBook wsX3_checkBook) := goodIn_app (goodIn_of _ (by decide +kernel)) ggX3_unsynced_X3_checkBook
set_option maxRecDepth 20000 in
theorem ggX3_unsynced_X0_isIn : GoodIn wsX3_unsynced wsX0_isIn := goodIn_r _ [13, 14, 41, 42, 43, 44, 45] (by decide +kernel) (by decide +kernel)
set_option maxRecDepth 20000 in
theorem gX3_unsynced_X0_isIn : GoodIn wsX3_unsynced (wsV RX3 92 RX0 yX0_isIn wsX0_isIn) := goodIn_app (goodIn_of _ (by decide +kernel)) ggX3_unsynced_X0_isIn
set_option maxRecDepth 20000 in
theorem ggX3_unsynced_X0_isSynced : GoodIn wsX3_unsynced wsX0_isSynced := goodIn_r _ [18, 19, 20, 21, 12, 22, 23, 24, 25, 26, 27, 28, 29, 30, 31, 32, 33, 34, 35, 36, 41, 42, 43, 44, 45] (by decide +kernel) (by decide +kernel)
set_option maxRecDepth 20000 in
theorem gX3_unsynced_X0_isSynced : GoodIn wsX3_unsynced (wsV RX3 110 RX0 yX0_isSynced wsX0_isSynced) := goodIn_app (goodIn_of _ (by decide +kernel)) ggX3_unsynced_X0_isSynced
theorem dX3_unsynced_0 : decode cX3_unsynced 0 = .ok (.aload_n 0, 1) := by decide +kernel
theorem dX3_unsynced_1 : decode cX3_unsynced 1 = .ok (.iload_n 1, 1) := by decide +kernel
theorem dX3_unsynced_2 : decode cX3_unsynced 2 = .ok (.invokevirtual 34, 3) := by decide +kernel
theorem dX3_unsynced_5 : decode cX3_unsynced 5 = .ok (.iconst 0, 1) := by decide +kernel
theorem dX3_unsynced_6 : decode cX3_unsynced 6 = .ok (.istore_n 2, 1) := by decide +kernel
theorem dX3_unsynced_7 : decode cX3_unsynced 7 = .ok (.iconst 0, 1) := by decide +kernel
theorem dX3_unsynced_8 : decode cX3_unsynced 8 = .ok (.istore_n 3, 1) := by decide +kernel
theorem dX3_unsynced_9 : decode cX3_unsynced 9 = .ok (.iload_n 3, 1) := by decide +kernel
theorem dX3_unsynced_10 : decode cX3_unsynced 10 = .ok (.aload_n 0, 1) := by decide +kernel
theorem dX3_unsynced_11 : decode cX3_unsynced 11 = .ok (.getfield 12, 3) := by decide +kernel
theorem dX3_unsynced_14 : decode cX3_unsynced 14 = .ok (.getfield 46, 3) := by decide +kernel
theorem dX3_unsynced_17 : decode cX3_unsynced 17 = .ok (.if_icmp .ge 35, 3) := by decide +kernel
theorem dX3_unsynced_20 : decode cX3_unsynced 20 = .ok (.aload_n 0, 1) := by decide +kernel
theorem dX3_unsynced_21 : decode cX3_unsynced 21 = .ok (.getfield 12, 3) := by decide +kernel
theorem dX3_unsynced_24 : decode cX3_unsynced 24 = .ok (.iload_n 3, 1) := by decide +kernel
theorem dX3_unsynced_25 : decode cX3_unsynced 25 = .ok (.iload_n 1, 1) := by decide +kernel
theorem dX3_unsynced_26 : decode cX3_unsynced 26 = .ok (.invokevirtual 92, 3) := by decide +kernel
theorem dX3_unsynced_29 : decode cX3_unsynced 29 = .ok (.ifCond .eq 17, 3) := by decide +kernel
theorem dX3_unsynced_32 : decode cX3_unsynced 32 = .ok (.aload_n 0, 1) := by decide +kernel
theorem dX3_unsynced_33 : decode cX3_unsynced 33 = .ok (.getfield 12, 3) := by decide +kernel
theorem dX3_unsynced_36 : decode cX3_unsynced 36 = .ok (.iload_n 3, 1) := by decide +kernel
theorem dX3_unsynced_37 : decode cX3_unsynced 37 = .ok (.invokevirtual 110, 3) := by decide +kernel
theorem dX3_unsynced_40 : decode cX3_unsynced 40 = .ok (.ifCond .ne 6, 3) := by decide +kernel
theorem dX3_unsynced_43 : decode cX3_unsynced 43 = .ok (.iinc 2 1, 3) := by decide +kernel
theorem dX3_unsynced_46 : decode cX3_unsynced 46 = .ok (.iinc 3 1, 3) := by decide +kernel
theorem dX3_unsynced_49 : decode cX3_unsynced 49 = .ok (.goto (-40), 3) := by decide +kernel
theorem dX3_unsynced_52 : decode cX3_unsynced 52 = .ok (.iload_n 2, 1) := by decide +kernel
theorem dX3_unsynced_53 : decode cX3_unsynced 53 = .ok (.ireturn, 1) := by decide +kernel
set_option maxRecDepth 20000 in
theorem ggX3_link_X3_checkTwoCards : GoodIn wsX3_link wsX3_checkTwoCards := goodIn_ca (goodIn_ca (goodIn_r _ [8, 9, 10, 11, 7, 12, 13, 14, 15, 16, 17, 18, 19, 20, 49, 50, 51, 52, 53, 54, 55, 56, 57] (by decide +kernel) (by decide +kernel)) (goodIn_sub (fun _ h => List.mem_cons_of_mem _ (List.mem_append_left _ (List.mem_append_right _ h))) (by decide +kernel))) (goodIn_sub (fun _ h => List.mem_cons_of_mem _ (List.mem_append_right _ h)) (by decide +kernel))
set_option maxRecDepth 20000 in
theorem gX3_link_X3_checkTwoCards : GoodIn wsX3_link (wsV RX3 113 RX3 yX3_checkTwoCards wsX3_checkTwoCards) := goodIn_app (goodIn_of _ (by decide +kernel)) ggX3_link_X3_checkTwoCards
set_option maxRecDepth 20000 in
theorem ggX3_link_X1_areLinked : GoodIn wsX3_link wsX1_areLinked := goodIn_r _ [25, 26, 27, 7, 28, 58, 59] (by decide +kernel) (by decide +kernel)
set_option maxRecDepth 20000 in
theorem gX3_link_X1_areLinked : GoodIn wsX3_link (wsV RX3 117 RX1 yX1_areLinked wsX1_areLinked) := goodIn_app (goodIn_of _ (by decide +kernel)) ggX3_link_X1_areLinked
set_option maxRecDepth 20000 in
theorem ggX3_link_X1_connect : GoodIn wsX3_link wsX1_connect := goodIn_r _ [32, 26, 33, 34, 35, 36, 24, 37, 27, 7, 28, 58, 59] (by decide +kernel) (by decide +kernel)
set_option maxRecDepth 20000 in
theorem gX3_link_X1_connect : GoodIn wsX3_link (wsV RX3 122 RX1 yX1_connect wsX1_connect) := goodIn_app (goodIn_of _ (by decide +kernel)) ggX3_link_X1_connect
set_option maxRecDepth 20000 in
theorem ggX3_link_X1_groupOf : GoodIn wsX3_link wsX1_groupOf := goodIn_r _ [41, 33, 58, 59] (by decide +kernel) (by decide +kernel)
set_option maxRecDepth 20000 in
theorem gX3_link_X1_groupOf : GoodIn wsX3_link (wsV RX3 125 RX1 yX1_groupOf wsX1_groupOf) := goodIn_app (goodIn_of _ (by decide +kernel)) ggX3_link_X1_groupOf
set_option maxRecDepth 20000 in
theorem ggX3_link_J6_bitCount_0f7a4 : GoodIn wsX3_link wsJ6_bitCount_0f7a4 := goodIn_r _ [45, 46, 47, 48] (by decide +kernel) (by decide +kernel)
set_option maxRecDepth 20000 in
theorem gX3_link_J6_bitCount_0f7a4 : GoodIn wsX3_link (va_wsS RX3 129 yJ6_bitCount_0f7a4 wsJ6_bitCount_0f7a4) := goodIn_app (goodIn_of _ (by decide +kernel)) ggX3_link_J6_bitCount_0f7a4
theorem dX3_link_0 : decode cX3_link 0 = .ok (.aload_n 0, 1) := by decide +kernel
theorem dX3_link_1 : decode cX3_link 1 = .ok (.iload_n 1, 1) := by decide +kernel
theorem dX3_link_2 : decode cX3_link 2 = .ok (.iload_n 2, 1) := by decide +kernel
theorem dX3_link_3 : decode cX3_link 3 = .ok (.invokevirtual 113, 3) := by decide +kernel
theorem dX3_link_6 : decode cX3_link 6 = .ok (.aload_n 0, 1) := by decide +kernel
theorem dX3_link_7 : decode cX3_link 7 = .ok (.getfield 19, 3) := by decide +kernel
theorem dX3_link_10 : decode cX3_link 10 = .ok (.iload_n 1, 1) := by decide +kernel
theorem dX3_link_11 : decode cX3_link 11 = .ok (.iload_n 2, 1) := by decide +kernel
theorem dX3_link_12 : decode cX3_link 12 = .ok (.invokevirtual 117, 3) := by decide +kernel
theorem dX3_link_15 : decode cX3_link 15 = .ok (.ifCond .eq 13, 3) := by decide +kernel
theorem dX3_link_18 : decode cX3_link 18 = .ok (.new 50, 3) := by decide +kernel
theorem dX3_link_21 : decode cX3_link 21 = .ok (.dup, 1) := by decide +kernel
theorem dX3_link_22 : decode cX3_link 22 = .ok (.ldc 120, 2) := by decide +kernel
theorem dX3_link_24 : decode cX3_link 24 = .ok (.invokespecial 54, 3) := by decide +kernel
theorem dX3_link_27 : decode cX3_link 27 = .ok (.athrow, 1) := by decide +kernel
theorem dX3_link_28 : decode cX3_link 28 = .ok (.aload_n 0, 1) := by decide +kernel
theorem dX3_link_29 : decode cX3_link 29 = .ok (.getfield 19, 3) := by decide +kernel
theorem dX3_link_32 : decode cX3_link 32 = .ok (.iload_n 1, 1) := by decide +kernel
theorem dX3_link_33 : decode cX3_link 33 = .ok (.iload_n 2, 1) := by decide +kernel
theorem dX3_link_34 : decode cX3_link 34 = .ok (.invokevirtual 122, 3) := by decide +kernel
theorem dX3_link_37 : decode cX3_link 37 = .ok (.aload_n 0, 1) := by decide +kernel
theorem dX3_link_38 : decode cX3_link 38 = .ok (.getfield 19, 3) := by decide +kernel
theorem dX3_link_41 : decode cX3_link 41 = .ok (.iload_n 1, 1) := by decide +kernel
theorem dX3_link_42 : decode cX3_link 42 = .ok (.invokevirtual 125, 3) := by decide +kernel
theorem dX3_link_45 : decode cX3_link 45 = .ok (.invokestatic 129, 3) := by decide +kernel
theorem dX3_link_48 : decode cX3_link 48 = .ok (.ireturn, 1) := by decide +kernel
set_option maxRecDepth 20000 in
theorem ggX3_cut_X3_checkCard : GoodIn wsX3_cut wsX3_checkCard := goodIn_ca (goodIn_r _ [8, 9, 10, 11, 41, 42, 43, 44, 45, 46, 47, 48, 49] (by decide +kernel) (by decide +kernel)) (goodIn_sub (fun _ h => List.mem_cons_of_mem _ (List.mem_append_right _ h)) (by decide +kernel))
set_option maxRecDepth 20000 in
theorem gX3_cut_X3_checkCard : GoodIn wsX3_cut (wsV RX3 61 RX3 yX3_checkCard wsX3_checkCard) := goodIn_app (goodIn_of _ (by decide +kernel)) ggX3_cut_X3_checkCard
set_option maxRecDepth 20000 in
theorem ggX3_cut_X1_areLinked : GoodIn wsX3_cut wsX1_areLinked := goodIn_r _ [16, 17, 18, 7, 19, 50, 51] (by decide +kernel) (by decide +kernel)
set_option maxRecDepth 20000 in
theorem gX3_cut_X1_areLinked : GoodIn wsX3_cut (wsV RX3 117 RX1 yX1_areLinked wsX1_areLinked) := goodIn_app (goodIn_of _ (by decide +kernel)) ggX3_cut_X1_areLinked
set_option maxRecDepth 20000 in
theorem ggX3_cut_X1_disconnect : GoodIn wsX3_cut wsX1_disconnect := goodIn_r _ [23, 17, 24, 25, 26, 15, 27, 28, 29, 30, 31, 18, 7, 19, 32, 33, 34, 35, 36, 50, 51] (by decide +kernel) (by decide +kernel)
set_option maxRecDepth 20000 in
theorem gX3_cut_X1_disconnect : GoodIn wsX3_cut (wsV RX3 136 RX1 yX1_disconnect wsX1_disconnect) := goodIn_app (goodIn_of _ (by decide +kernel)) ggX3_cut_X1_disconnect
set_option maxRecDepth 20000 in
theorem ggX3_cut_X1_areTogether : GoodIn wsX3_cut wsX1_areTogether := goodIn_r _ [40, 36, 18, 7, 19, 50, 51] (by decide +kernel) (by decide +kernel)
set_option maxRecDepth 20000 in
theorem gX3_cut_X1_areTogether : GoodIn wsX3_cut (wsV RX3 139 RX1 yX1_areTogether wsX1_areTogether) := goodIn_app (goodIn_of _ (by decide +kernel)) ggX3_cut_X1_areTogether
theorem dX3_cut_0 : decode cX3_cut 0 = .ok (.aload_n 0, 1) := by decide +kernel
theorem dX3_cut_1 : decode cX3_cut 1 = .ok (.iload_n 1, 1) := by decide +kernel
theorem dX3_cut_2 : decode cX3_cut 2 = .ok (.invokevirtual 61, 3) := by decide +kernel
theorem dX3_cut_5 : decode cX3_cut 5 = .ok (.aload_n 0, 1) := by decide +kernel
theorem dX3_cut_6 : decode cX3_cut 6 = .ok (.iload_n 2, 1) := by decide +kernel
theorem dX3_cut_7 : decode cX3_cut 7 = .ok (.invokevirtual 61, 3) := by decide +kernel
theorem dX3_cut_10 : decode cX3_cut 10 = .ok (.aload_n 0, 1) := by decide +kernel
theorem dX3_cut_11 : decode cX3_cut 11 = .ok (.getfield 19, 3) := by decide +kernel
theorem dX3_cut_14 : decode cX3_cut 14 = .ok (.iload_n 1, 1) := by decide +kernel
theorem dX3_cut_15 : decode cX3_cut 15 = .ok (.iload_n 2, 1) := by decide +kernel
theorem dX3_cut_16 : decode cX3_cut 16 = .ok (.invokevirtual 117, 3) := by decide +kernel
theorem dX3_cut_19 : decode cX3_cut 19 = .ok (.ifCond .ne 13, 3) := by decide +kernel
theorem dX3_cut_22 : decode cX3_cut 22 = .ok (.new 50, 3) := by decide +kernel
theorem dX3_cut_25 : decode cX3_cut 25 = .ok (.dup, 1) := by decide +kernel
theorem dX3_cut_26 : decode cX3_cut 26 = .ok (.ldc 134, 2) := by decide +kernel
theorem dX3_cut_28 : decode cX3_cut 28 = .ok (.invokespecial 54, 3) := by decide +kernel
theorem dX3_cut_31 : decode cX3_cut 31 = .ok (.athrow, 1) := by decide +kernel
theorem dX3_cut_32 : decode cX3_cut 32 = .ok (.aload_n 0, 1) := by decide +kernel
theorem dX3_cut_33 : decode cX3_cut 33 = .ok (.getfield 19, 3) := by decide +kernel
theorem dX3_cut_36 : decode cX3_cut 36 = .ok (.iload_n 1, 1) := by decide +kernel
theorem dX3_cut_37 : decode cX3_cut 37 = .ok (.iload_n 2, 1) := by decide +kernel
theorem dX3_cut_38 : decode cX3_cut 38 = .ok (.invokevirtual 136, 3) := by decide +kernel
theorem dX3_cut_41 : decode cX3_cut 41 = .ok (.aload_n 0, 1) := by decide +kernel
theorem dX3_cut_42 : decode cX3_cut 42 = .ok (.getfield 19, 3) := by decide +kernel
theorem dX3_cut_45 : decode cX3_cut 45 = .ok (.iload_n 1, 1) := by decide +kernel
theorem dX3_cut_46 : decode cX3_cut 46 = .ok (.iload_n 2, 1) := by decide +kernel
theorem dX3_cut_47 : decode cX3_cut 47 = .ok (.invokevirtual 139, 3) := by decide +kernel
theorem dX3_cut_50 : decode cX3_cut 50 = .ok (.ireturn, 1) := by decide +kernel
set_option maxRecDepth 20000 in
theorem ggX3_group_X3_checkCard : GoodIn wsX3_group wsX3_checkCard := goodIn_ca (goodIn_r _ [6, 7, 8, 9, 16, 17, 18, 19, 20, 21, 22, 23, 24] (by decide +kernel) (by decide +kernel)) (goodIn_sub (fun _ h => List.mem_cons_of_mem _ (List.mem_append_right _ h)) (by decide +kernel))
set_option maxRecDepth 20000 in
theorem gX3_group_X3_checkCard : GoodIn wsX3_group (wsV RX3 61 RX3 yX3_checkCard wsX3_checkCard) := goodIn_app (goodIn_of _ (by decide +kernel)) ggX3_group_X3_checkCard
set_option maxRecDepth 20000 in
theorem ggX3_group_X1_groupOf : GoodIn wsX3_group wsX1_groupOf := goodIn_r _ [14, 15, 25, 26] (by decide +kernel) (by decide +kernel)
set_option maxRecDepth 20000 in
theorem gX3_group_X1_groupOf : GoodIn wsX3_group (wsV RX3 125 RX1 yX1_groupOf wsX1_groupOf) := goodIn_app (goodIn_of _ (by decide +kernel)) ggX3_group_X1_groupOf
theorem dX3_group_0 : decode cX3_group 0 = .ok (.aload_n 0, 1) := by decide +kernel
theorem dX3_group_1 : decode cX3_group 1 = .ok (.iload_n 1, 1) := by decide +kernel
theorem dX3_group_2 : decode cX3_group 2 = .ok (.invokevirtual 61, 3) := by decide +kernel
theorem dX3_group_5 : decode cX3_group 5 = .ok (.aload_n 0, 1) := by decide +kernel
theorem dX3_group_6 : decode cX3_group 6 = .ok (.getfield 19, 3) := by decide +kernel
theorem dX3_group_9 : decode cX3_group 9 = .ok (.iload_n 1, 1) := by decide +kernel
theorem dX3_group_10 : decode cX3_group 10 = .ok (.invokevirtual 125, 3) := by decide +kernel
theorem dX3_group_13 : decode cX3_group 13 = .ok (.ireturn, 1) := by decide +kernel
set_option maxRecDepth 20000 in
theorem ggX3_groups_X1_isLowestOfGroup : GoodIn wsX3_groups wsX1_isLowestOfGroup := goodIn_r _ [7, 8, 18, 19] (by decide +kernel) (by decide +kernel)
set_option maxRecDepth 20000 in
theorem gX3_groups_X1_isLowestOfGroup : GoodIn wsX3_groups (wsV RX3 142 RX1 yX1_isLowestOfGroup wsX1_isLowestOfGroup) := goodIn_app (goodIn_of _ (by decide +kernel)) ggX3_groups_X1_isLowestOfGroup
theorem dX3_groups_0 : decode cX3_groups 0 = .ok (.iconst 0, 1) := by decide +kernel
theorem dX3_groups_1 : decode cX3_groups 1 = .ok (.istore_n 1, 1) := by decide +kernel
theorem dX3_groups_2 : decode cX3_groups 2 = .ok (.iconst 0, 1) := by decide +kernel
theorem dX3_groups_3 : decode cX3_groups 3 = .ok (.istore_n 2, 1) := by decide +kernel
theorem dX3_groups_4 : decode cX3_groups 4 = .ok (.iload_n 2, 1) := by decide +kernel
theorem dX3_groups_5 : decode cX3_groups 5 = .ok (.aload_n 0, 1) := by decide +kernel
theorem dX3_groups_6 : decode cX3_groups 6 = .ok (.getfield 12, 3) := by decide +kernel
theorem dX3_groups_9 : decode cX3_groups 9 = .ok (.getfield 46, 3) := by decide +kernel
theorem dX3_groups_12 : decode cX3_groups 12 = .ok (.if_icmp .ge 23, 3) := by decide +kernel
theorem dX3_groups_15 : decode cX3_groups 15 = .ok (.aload_n 0, 1) := by decide +kernel
theorem dX3_groups_16 : decode cX3_groups 16 = .ok (.getfield 19, 3) := by decide +kernel
theorem dX3_groups_19 : decode cX3_groups 19 = .ok (.iload_n 2, 1) := by decide +kernel
theorem dX3_groups_20 : decode cX3_groups 20 = .ok (.invokevirtual 142, 3) := by decide +kernel
theorem dX3_groups_23 : decode cX3_groups 23 = .ok (.ifCond .eq 6, 3) := by decide +kernel
theorem dX3_groups_26 : decode cX3_groups 26 = .ok (.iinc 1 1, 3) := by decide +kernel
theorem dX3_groups_29 : decode cX3_groups 29 = .ok (.iinc 2 1, 3) := by decide +kernel
theorem dX3_groups_32 : decode cX3_groups 32 = .ok (.goto (-28), 3) := by decide +kernel
theorem dX3_groups_35 : decode cX3_groups 35 = .ok (.iload_n 1, 1) := by decide +kernel
theorem dX3_groups_36 : decode cX3_groups 36 = .ok (.ireturn, 1) := by decide +kernel
set_option maxRecDepth 20000 in
theorem ggX3_preferred_X3_checkCard : GoodIn wsX3_preferred wsX3_checkCard := goodIn_ca (goodIn_r _ [7, 8, 9, 1, 29, 30, 31, 32, 33, 34, 35, 36, 37] (by decide +kernel) (by decide +kernel)) (goodIn_sub (fun _ h => List.mem_cons_of_mem _ (List.mem_append_right _ h)) (by decide +kernel))
set_option maxRecDepth 20000 in
theorem gX3_preferred_X3_checkCard : GoodIn wsX3_preferred (wsV RX3 61 RX3 yX3_checkCard wsX3_checkCard) := goodIn_app (goodIn_of _ (by decide +kernel)) ggX3_preferred_X3_checkCard
set_option maxRecDepth 20000 in
theorem ggX3_preferred_X1_groupOf : GoodIn wsX3_preferred wsX1_groupOf := goodIn_r _ [14, 15, 38, 39] (by decide +kernel) (by decide +kernel)
set_option maxRecDepth 20000 in
theorem gX3_preferred_X1_groupOf : GoodIn wsX3_preferred (wsV RX3 125 RX1 yX1_groupOf wsX1_groupOf) := goodIn_app (goodIn_of _ (by decide +kernel)) ggX3_preferred_X1_groupOf
set_option maxRecDepth 20000 in
theorem ggX3_preferred_X0_preferredOf : GoodIn wsX3_preferred wsX0_preferredOf := goodIn_r _ [20, 21, 22, 6, 23, 24, 25, 26, 19, 27, 28, 33, 34, 35, 36, 37] (by decide +kernel) (by decide +kernel)
set_option maxRecDepth 20000 in
theorem gX3_preferred_X0_preferredOf : GoodIn wsX3_preferred (wsV RX3 145 RX0 yX0_preferredOf wsX0_preferredOf) := goodIn_app (goodIn_of _ (by decide +kernel)) ggX3_preferred_X0_preferredOf
theorem dX3_preferred_0 : decode cX3_preferred 0 = .ok (.aload_n 0, 1) := by decide +kernel
theorem dX3_preferred_1 : decode cX3_preferred 1 = .ok (.iload_n 1, 1) := by decide +kernel
theorem dX3_preferred_2 : decode cX3_preferred 2 = .ok (.invokevirtual 61, 3) := by decide +kernel
theorem dX3_preferred_5 : decode cX3_preferred 5 = .ok (.aload_n 0, 1) := by decide +kernel
theorem dX3_preferred_6 : decode cX3_preferred 6 = .ok (.getfield 12, 3) := by decide +kernel
theorem dX3_preferred_9 : decode cX3_preferred 9 = .ok (.iload_n 1, 1) := by decide +kernel
theorem dX3_preferred_10 : decode cX3_preferred 10 = .ok (.aload_n 0, 1) := by decide +kernel
theorem dX3_preferred_11 : decode cX3_preferred 11 = .ok (.getfield 19, 3) := by decide +kernel
theorem dX3_preferred_14 : decode cX3_preferred 14 = .ok (.iload_n 1, 1) := by decide +kernel
theorem dX3_preferred_15 : decode cX3_preferred 15 = .ok (.invokevirtual 125, 3) := by decide +kernel
theorem dX3_preferred_18 : decode cX3_preferred 18 = .ok (.invokevirtual 145, 3) := by decide +kernel
theorem dX3_preferred_21 : decode cX3_preferred 21 = .ok (.ireturn, 1) := by decide +kernel
set_option maxRecDepth 20000 in
theorem ggX3_shown_X3_checkCard : GoodIn wsX3_shown wsX3_checkCard := goodIn_ca (goodIn_r _ [7, 8, 9, 1, 37, 38, 39, 40, 41, 42, 43, 44, 45] (by decide +kernel) (by decide +kernel)) (goodIn_sub (fun _ h => List.mem_cons_of_mem _ (List.mem_append_left _ (List.mem_append_right _ h))) (by decide +kernel))
set_option maxRecDepth 20000 in
theorem gX3_shown_X3_checkCard : GoodIn wsX3_shown (wsV RX3 61 RX3 yX3_checkCard wsX3_checkCard) := goodIn_app (goodIn_of _ (by decide +kernel)) ggX3_shown_X3_checkCard
set_option maxRecDepth 20000 in
theorem ggX3_shown_X3_isKind : GoodIn wsX3_shown wsX3_isKind := goodIn_r _ [12] (by decide +kernel) (by decide +kernel)
set_option maxRecDepth 20000 in
theorem gX3_shown_X3_isKind : GoodIn wsX3_shown (va_wsS RX3 67 yX3_isKind wsX3_isKind) := goodIn_app (goodIn_of _ (by decide +kernel)) ggX3_shown_X3_isKind
set_option maxRecDepth 20000 in
theorem ggX3_shown_X3_checkArgument : GoodIn wsX3_shown wsX3_checkArgument := goodIn_ca (goodIn_r _ [15, 16, 17] (by decide +kernel) (by decide +kernel)) (goodIn_sub (fun _ h => List.mem_cons_of_mem _ (List.mem_append_right _ h)) (by decide +kernel))
set_option maxRecDepth 20000 in
theorem gX3_shown_X3_checkArgument : GoodIn wsX3_shown (va_wsS RX3 42 yX3_checkArgument wsX3_checkArgument) := goodIn_app (goodIn_of _ (by decide +kernel)) ggX3_shown_X3_checkArgument
set_option maxRecDepth 20000 in
theorem ggX3_shown_X1_groupOf : GoodIn wsX3_shown wsX1_groupOf := goodIn_r _ [22, 23, 46, 47] (by decide +kernel) (by decide +kernel)
set_option maxRecDepth 20000 in
theorem gX3_shown_X1_groupOf : GoodIn wsX3_shown (wsV RX3 125 RX1 yX1_groupOf wsX1_groupOf) := goodIn_app (goodIn_of _ (by decide +kernel)) ggX3_shown_X1_groupOf
set_option maxRecDepth 20000 in
theorem ggX3_shown_X0_mineOfAll : GoodIn wsX3_shown wsX0_mineOfAll := goodIn_r _ [28, 29, 30, 6, 31, 32, 33, 34, 27, 35, 36, 41, 42, 43, 44, 45] (by decide +kernel) (by decide +kernel)
set_option maxRecDepth 20000 in
theorem gX3_shown_X0_mineOfAll : GoodIn wsX3_shown (wsV RX3 148 RX0 yX0_mineOfAll wsX0_mineOfAll) := goodIn_app (goodIn_of _ (by decide +kernel)) ggX3_shown_X0_mineOfAll
theorem dX3_shown_0 : decode cX3_shown 0 = .ok (.aload_n 0, 1) := by decide +kernel
theorem dX3_shown_1 : decode cX3_shown 1 = .ok (.iload_n 1, 1) := by decide +kernel
theorem dX3_shown_2 : decode cX3_shown 2 = .ok (.invokevirtual 61, 3) := by decide +kernel
theorem dX3_shown_5 : decode cX3_shown 5 = .ok (.iload_n 2, 1) := by decide +kernel
theorem dX3_shown_6 : decode cX3_shown 6 = .ok (.invokestatic 67, 3) := by decide +kernel
theorem dX3_shown_9 : decode cX3_shown 9 = .ok (.invokestatic 42, 3) := by decide +kernel
theorem dX3_shown_12 : decode cX3_shown 12 = .ok (.aload_n 0, 1) := by decide +kernel
theorem dX3_shown_13 : decode cX3_shown 13 = .ok (.getfield 12, 3) := by decide +kernel
theorem dX3_shown_16 : decode cX3_shown 16 = .ok (.aload_n 0, 1) := by decide +kernel
theorem dX3_shown_17 : decode cX3_shown 17 = .ok (.getfield 19, 3) := by decide +kernel
theorem dX3_shown_20 : decode cX3_shown 20 = .ok (.iload_n 1, 1) := by decide +kernel
theorem dX3_shown_21 : decode cX3_shown 21 = .ok (.invokevirtual 125, 3) := by decide +kernel
theorem dX3_shown_24 : decode cX3_shown 24 = .ok (.iload_n 2, 1) := by decide +kernel
theorem dX3_shown_25 : decode cX3_shown 25 = .ok (.invokevirtual 148, 3) := by decide +kernel
theorem dX3_shown_28 : decode cX3_shown 28 = .ok (.ireturn, 1) := by decide +kernel
set_option maxRecDepth 20000 in
theorem ggX3_edit_X3_checkCard : GoodIn wsX3_edit wsX3_checkCard := goodIn_ca (goodIn_r _ [7, 8, 9, 2, 60, 61, 62, 63, 64, 65, 66, 67, 68] (by decide +kernel) (by decide +kernel)) (goodIn_sub (fun _ h => List.mem_cons_of_mem _ (List.mem_append_left _ (List.mem_append_right _ h))) (by decide +kernel))
set_option maxRecDepth 20000 in
theorem gX3_edit_X3_checkCard : GoodIn wsX3_edit (wsV RX3 61 RX3 yX3_checkCard wsX3_checkCard) := goodIn_app (goodIn_of _ (by decide +kernel)) ggX3_edit_X3_checkCard
set_option maxRecDepth 20000 in
theorem ggX3_edit_X3_isKind : GoodIn wsX3_edit wsX3_isKind := goodIn_r _ [12] (by decide +kernel) (by decide +kernel)
set_option maxRecDepth 20000 in
theorem gX3_edit_X3_isKind : GoodIn wsX3_edit (va_wsS RX3 67 yX3_isKind wsX3_isKind) := goodIn_app (goodIn_of _ (by decide +kernel)) ggX3_edit_X3_isKind
set_option maxRecDepth 20000 in
theorem ggX3_edit_X3_isValue : GoodIn wsX3_edit wsX3_isValue := goodIn_r _ [15] (by decide +kernel) (by decide +kernel)
set_option maxRecDepth 20000 in
theorem gX3_edit_X3_isValue : GoodIn wsX3_edit (va_wsS RX3 70 yX3_isValue wsX3_isValue) := goodIn_app (goodIn_of _ (by decide +kernel)) ggX3_edit_X3_isValue
set_option maxRecDepth 20000 in
theorem ggX3_edit_X3_checkArgument : GoodIn wsX3_edit wsX3_checkArgument := goodIn_ca (goodIn_r _ [18, 19, 20] (by decide +kernel) (by decide +kernel)) (goodIn_sub (fun _ h => List.mem_cons_of_mem _ (List.mem_append_right _ h)) (by decide +kernel))
set_option maxRecDepth 20000 in
theorem gX3_edit_X3_checkArgument : GoodIn wsX3_edit (va_wsS RX3 42 yX3_checkArgument wsX3_checkArgument) := goodIn_app (goodIn_of _ (by decide +kernel)) ggX3_edit_X3_checkArgument
set_option maxRecDepth 20000 in
theorem ggX3_edit_X1_groupOf : GoodIn wsX3_edit wsX1_groupOf := goodIn_r _ [25, 26, 69, 70] (by decide +kernel) (by decide +kernel)
set_option maxRecDepth 20000 in
theorem gX3_edit_X1_groupOf : GoodIn wsX3_edit (wsV RX3 125 RX1 yX1_groupOf wsX1_groupOf) := goodIn_app (goodIn_of _ (by decide +kernel)) ggX3_edit_X1_groupOf
set_option maxRecDepth 20000 in
theorem ggX3_edit_X0_mineOfAll : GoodIn wsX3_edit wsX0_mineOfAll := goodIn_r _ [31, 32, 33, 6, 34, 35, 36, 37, 30, 38, 39, 64, 65, 66, 67, 68] (by decide +kernel) (by decide +kernel)
set_option maxRecDepth 20000 in
theorem gX3_edit_X0_mineOfAll : GoodIn wsX3_edit (wsV RX3 148 RX0 yX0_mineOfAll wsX0_mineOfAll) := goodIn_app (goodIn_of _ (by decide +kernel)) ggX3_edit_X0_mineOfAll
set_option maxRecDepth 20000 in
theorem ggX3_edit_X3_has : GoodIn wsX3_edit wsX3_has := goodIn_r _ [34] (by decide +kernel) (by decide +kernel)
set_option maxRecDepth 20000 in
theorem gX3_edit_X3_has : GoodIn wsX3_edit (va_wsS RX3 81 yX3_has wsX3_has) := goodIn_app (goodIn_of _ (by decide +kernel)) ggX3_edit_X3_has
set_option maxRecDepth 20000 in
theorem ggX3_edit_X3_takeOutOfMine : GoodIn wsX3_edit wsX3_takeOutOfMine := goodIn_r _ [44, 2, 45, 36, 37, 30, 38, 39, 40, 33, 6, 34, 46, 47, 48, 49, 50, 35, 60, 61, 62, 63, 64, 65, 66, 67, 68] (by decide +kernel) (by decide +kernel)
set_option maxRecDepth 20000 in
theorem gX3_edit_X3_takeOutOfMine : GoodIn wsX3_edit (wsV RX3 151 RX3 yX3_takeOutOfMine wsX3_takeOutOfMine) := goodIn_app (goodIn_of _ (by decide +kernel)) ggX3_edit_X3_takeOutOfMine
set_option maxRecDepth 20000 in
theorem ggX3_edit_X0_preferredOf : GoodIn wsX3_edit wsX0_preferredOf := goodIn_r _ [54, 32, 33, 6, 34, 55, 56, 57, 30, 58, 59, 64, 65, 66, 67, 68] (by decide +kernel) (by decide +kernel)
set_option maxRecDepth 20000 in
theorem gX3_edit_X0_preferredOf : GoodIn wsX3_edit (wsV RX3 145 RX0 yX0_preferredOf wsX0_preferredOf) := goodIn_app (goodIn_of _ (by decide +kernel)) ggX3_edit_X0_preferredOf
set_option maxRecDepth 20000 in
theorem ggX3_edit_X0_setOf : GoodIn wsX3_edit wsX0_setOf := goodIn_r _ [38, 39, 64, 65, 66, 67, 68] (by decide +kernel) (by decide +kernel)
set_option maxRecDepth 20000 in
theorem gX3_edit_X0_setOf : GoodIn wsX3_edit (wsV RX3 73 RX0 yX0_setOf wsX0_setOf) := goodIn_app (goodIn_of _ (by decide +kernel)) ggX3_edit_X0_setOf
set_option maxRecDepth 20000 in
theorem ggX3_edit_X0_putSet : GoodIn wsX3_edit wsX0_putSet := goodIn_r _ [49, 50, 39, 35, 36, 37, 30, 38, 64, 65, 66, 67, 68] (by decide +kernel) (by decide +kernel)
set_option maxRecDepth 20000 in
theorem gX3_edit_X0_putSet : GoodIn wsX3_edit (wsV RX3 77 RX0 yX0_putSet wsX0_putSet) := goodIn_app (goodIn_of _ (by decide +kernel)) ggX3_edit_X0_putSet
theorem dX3_edit_0 : decode cX3_edit 0 = .ok (.aload_n 0, 1) := by decide +kernel
theorem dX3_edit_1 : decode cX3_edit 1 = .ok (.iload_n 1, 1) := by decide +kernel
theorem dX3_edit_2 : decode cX3_edit 2 = .ok (.invokevirtual 61, 3) := by decide +kernel
theorem dX3_edit_5 : decode cX3_edit 5 = .ok (.iload_n 2, 1) := by decide +kernel
theorem dX3_edit_6 : decode cX3_edit 6 = .ok (.invokestatic 67, 3) := by decide +kernel
theorem dX3_edit_9 : decode cX3_edit 9 = .ok (.ifCond .eq 14, 3) := by decide +kernel
theorem dX3_edit_12 : decode cX3_edit 12 = .ok (.iload_n 3, 1) := by decide +kernel
theorem dX3_edit_13 : decode cX3_edit 13 = .ok (.invokestatic 70, 3) := by decide +kernel
theorem dX3_edit_16 : decode cX3_edit 16 = .ok (.ifCond .eq 7, 3) := by decide +kernel
theorem dX3_edit_19 : decode cX3_edit 19 = .ok (.iconst 1, 1) := by decide +kernel
theorem dX3_edit_20 : decode cX3_edit 20 = .ok (.goto 4, 3) := by decide +kernel
theorem dX3_edit_23 : decode cX3_edit 23 = .ok (.iconst 0, 1) := by decide +kernel
theorem dX3_edit_24 : decode cX3_edit 24 = .ok (.invokestatic 42, 3) := by decide +kernel
theorem dX3_edit_27 : decode cX3_edit 27 = .ok (.aload_n 0, 1) := by decide +kernel
theorem dX3_edit_28 : decode cX3_edit 28 = .ok (.getfield 19, 3) := by decide +kernel
theorem dX3_edit_31 : decode cX3_edit 31 = .ok (.iload_n 1, 1) := by decide +kernel
theorem dX3_edit_32 : decode cX3_edit 32 = .ok (.invokevirtual 125, 3) := by decide +kernel
theorem dX3_edit_35 : decode cX3_edit 35 = .ok (.istore 4, 2) := by decide +kernel
theorem dX3_edit_37 : decode cX3_edit 37 = .ok (.aload_n 0, 1) := by decide +kernel
theorem dX3_edit_38 : decode cX3_edit 38 = .ok (.getfield 12, 3) := by decide +kernel
theorem dX3_edit_41 : decode cX3_edit 41 = .ok (.iload 4, 2) := by decide +kernel
theorem dX3_edit_43 : decode cX3_edit 43 = .ok (.iload_n 2, 1) := by decide +kernel
theorem dX3_edit_44 : decode cX3_edit 44 = .ok (.invokevirtual 148, 3) := by decide +kernel
theorem dX3_edit_47 : decode cX3_edit 47 = .ok (.iload_n 3, 1) := by decide +kernel
theorem dX3_edit_48 : decode cX3_edit 48 = .ok (.invokestatic 81, 3) := by decide +kernel
theorem dX3_edit_51 : decode cX3_edit 51 = .ok (.ifCond .eq 12, 3) := by decide +kernel
theorem dX3_edit_54 : decode cX3_edit 54 = .ok (.aload_n 0, 1) := by decide +kernel
theorem dX3_edit_55 : decode cX3_edit 55 = .ok (.iload 4, 2) := by decide +kernel
theorem dX3_edit_57 : decode cX3_edit 57 = .ok (.iload_n 2, 1) := by decide +kernel
theorem dX3_edit_58 : decode cX3_edit 58 = .ok (.iload_n 3, 1) := by decide +kernel
theorem dX3_edit_59 : decode cX3_edit 59 = .ok (.invokevirtual 151, 3) := by decide +kernel
theorem dX3_edit_62 : decode cX3_edit 62 = .ok (.ireturn, 1) := by decide +kernel
theorem dX3_edit_63 : decode cX3_edit 63 = .ok (.aload_n 0, 1) := by decide +kernel
theorem dX3_edit_64 : decode cX3_edit 64 = .ok (.getfield 12, 3) := by decide +kernel
theorem dX3_edit_67 : decode cX3_edit 67 = .ok (.iload_n 1, 1) := by decide +kernel
theorem dX3_edit_68 : decode cX3_edit 68 = .ok (.iload 4, 2) := by decide +kernel
theorem dX3_edit_70 : decode cX3_edit 70 = .ok (.invokevirtual 145, 3) := by decide +kernel
theorem dX3_edit_73 : decode cX3_edit 73 = .ok (.istore 5, 2) := by decide +kernel
theorem dX3_edit_75 : decode cX3_edit 75 = .ok (.aload_n 0, 1) := by decide +kernel
theorem dX3_edit_76 : decode cX3_edit 76 = .ok (.getfield 12, 3) := by decide +kernel
theorem dX3_edit_79 : decode cX3_edit 79 = .ok (.iload 5, 2) := by decide +kernel
theorem dX3_edit_81 : decode cX3_edit 81 = .ok (.iconst 0, 1) := by decide +kernel
theorem dX3_edit_82 : decode cX3_edit 82 = .ok (.iload_n 2, 1) := by decide +kernel
theorem dX3_edit_83 : decode cX3_edit 83 = .ok (.aload_n 0, 1) := by decide +kernel
theorem dX3_edit_84 : decode cX3_edit 84 = .ok (.getfield 12, 3) := by decide +kernel
theorem dX3_edit_87 : decode cX3_edit 87 = .ok (.iload 5, 2) := by decide +kernel
theorem dX3_edit_89 : decode cX3_edit 89 = .ok (.iconst 0, 1) := by decide +kernel
theorem dX3_edit_90 : decode cX3_edit 90 = .ok (.iload_n 2, 1) := by decide +kernel
theorem dX3_edit_91 : decode cX3_edit 91 = .ok (.invokevirtual 73, 3) := by decide +kernel
theorem dX3_edit_94 : decode cX3_edit 94 = .ok (.iconst 1, 1) := by decide +kernel
theorem dX3_edit_95 : decode cX3_edit 95 = .ok (.iload_n 3, 1) := by decide +kernel
theorem dX3_edit_96 : decode cX3_edit 96 = .ok (.ishl, 1) := by decide +kernel
theorem dX3_edit_97 : decode cX3_edit 97 = .ok (.ior, 1) := by decide +kernel
theorem dX3_edit_98 : decode cX3_edit 98 = .ok (.invokevirtual 77, 3) := by decide +kernel
theorem dX3_edit_101 : decode cX3_edit 101 = .ok (.iconst 1, 1) := by decide +kernel
theorem dX3_edit_102 : decode cX3_edit 102 = .ok (.iload 5, 2) := by decide +kernel
theorem dX3_edit_104 : decode cX3_edit 104 = .ok (.ishl, 1) := by decide +kernel
theorem dX3_edit_105 : decode cX3_edit 105 = .ok (.ireturn, 1) := by decide +kernel
set_option maxRecDepth 20000 in
theorem ggX3_score_X3_checkTwoCards : GoodIn wsX3_score wsX3_checkTwoCards := goodIn_ca (goodIn_ca (goodIn_r _ [5, 6, 7, 8, 4, 9, 10, 11, 12, 13, 14, 15, 16, 17, 53, 54, 55, 56, 57, 58, 59, 60, 61] (by decide +kernel) (by decide +kernel)) (goodIn_sub (fun _ h => List.mem_cons_of_mem _ (List.mem_append_left _ (List.mem_append_right _ h))) (by decide +kernel))) (goodIn_sub (fun _ h => List.mem_cons_of_mem _ (List.mem_append_right _ h)) (by decide +kernel))
set_option maxRecDepth 20000 in
theorem gX3_score_X3_checkTwoCards : GoodIn wsX3_score (wsV RX3 113 RX3 yX3_checkTwoCards wsX3_checkTwoCards) := goodIn_app (goodIn_of _ (by decide +kernel)) ggX3_score_X3_checkTwoCards
set_option maxRecDepth 20000 in
theorem ggX3_score_X3_scoreOf : GoodIn wsX3_score wsX3_scoreOf := goodIn_r _ [21, 22, 12, 23, 24, 25, 26, 27, 28, 29, 4, 30, 31, 32, 33, 34, 35, 36, 37, 38, 39, 40, 41, 42, 43, 44, 45, 46, 47, 48, 49, 50, 51, 52, 53, 54, 55, 56, 62, 63, 57, 58, 59, 60, 61] (by decide +kernel) (by decide +kernel)
set_option maxRecDepth 20000 in
theorem gX3_score_X3_scoreOf : GoodIn wsX3_score (wsV RX3 154 RX3 yX3_scoreOf wsX3_scoreOf) := goodIn_app (goodIn_of _ (by decide +kernel)) ggX3_score_X3_scoreOf
theorem dX3_score_0 : decode cX3_score 0 = .ok (.aload_n 0, 1) := by decide +kernel
theorem dX3_score_1 : decode cX3_score 1 = .ok (.iload_n 1, 1) := by decide +kernel
theorem dX3_score_2 : decode cX3_score 2 = .ok (.iload_n 2, 1) := by decide +kernel
theorem dX3_score_3 : decode cX3_score 3 = .ok (.invokevirtual 113, 3) := by decide +kernel
theorem dX3_score_6 : decode cX3_score 6 = .ok (.aload_n 0, 1) := by decide +kernel
theorem dX3_score_7 : decode cX3_score 7 = .ok (.iload_n 1, 1) := by decide +kernel
theorem dX3_score_8 : decode cX3_score 8 = .ok (.iload_n 2, 1) := by decide +kernel
theorem dX3_score_9 : decode cX3_score 9 = .ok (.invokevirtual 154, 3) := by decide +kernel
theorem dX3_score_12 : decode cX3_score 12 = .ok (.ireturn, 1) := by decide +kernel
set_option maxRecDepth 20000 in
theorem ggX3_pairs_X3_tallyPairs : GoodIn wsX3_pairs wsX3_tallyPairs := goodIn_r _ [5, 6, 7, 8, 9, 10, 4, 11, 12, 13, 14, 15, 16, 17, 18, 19, 20, 21, 22, 23, 24, 25, 26, 27, 28, 29, 30, 31, 32, 33, 34, 35, 36, 37, 38, 39, 40, 41, 42, 43, 44, 45, 46, 47, 48, 49, 50, 51, 52, 53, 54, 55, 56, 57, 58, 59, 60, 61, 62, 63, 64, 65, 66, 67, 68, 69, 70, 71, 72] (by decide +kernel) (by decide +kernel)
set_option maxRecDepth 20000 in
theorem gX3_pairs_X3_tallyPairs : GoodIn wsX3_pairs (wsV RX3 157 RX3 yX3_tallyPairs wsX3_tallyPairs) := goodIn_app (goodIn_of _ (by decide +kernel)) ggX3_pairs_X3_tallyPairs
theorem dX3_pairs_0 : decode cX3_pairs 0 = .ok (.aload_n 0, 1) := by decide +kernel
theorem dX3_pairs_1 : decode cX3_pairs 1 = .ok (.invokevirtual 157, 3) := by decide +kernel
theorem dX3_pairs_4 : decode cX3_pairs 4 = .ok (.ireturn, 1) := by decide +kernel
set_option maxRecDepth 20000 in
theorem ggX3_pairAt_X3_tallyPairs : GoodIn wsX3_pairAt wsX3_tallyPairs := goodIn_r _ [8, 3, 9, 10, 11, 12, 7, 13, 14, 15, 16, 17, 18, 19, 20, 21, 22, 23, 24, 25, 26, 27, 28, 29, 30, 31, 32, 33, 34, 35, 36, 37, 38, 39, 40, 41, 42, 43, 44, 45, 46, 47, 48, 49, 50, 51, 52, 53, 54, 55, 56, 57, 58, 59, 60, 61, 66, 67, 68, 69, 70, 71, 72, 73, 74, 75, 76, 77, 78] (by decide +kernel) (by decide +kernel)
set_option maxRecDepth 20000 in
theorem gX3_pairAt_X3_tallyPairs : GoodIn wsX3_pairAt (wsV RX3 157 RX3 yX3_tallyPairs wsX3_tallyPairs) := goodIn_app (goodIn_of _ (by decide +kernel)) ggX3_pairAt_X3_tallyPairs
set_option maxRecDepth 20000 in
theorem ggX3_pairAt_X3_pairOfScore : GoodIn wsX3_pairAt wsX3_pairOfScore := goodIn_r _ [65, 9, 10, 11, 12, 7, 13, 14, 15, 16, 17, 18, 19, 20, 21, 22, 23, 24, 25, 26, 27, 28, 29, 30, 31, 32, 33, 34, 35, 36, 37, 38, 39, 40, 41, 42, 43, 44, 45, 46, 47, 48, 49, 50, 51, 52, 53, 54, 55, 56, 57, 58, 59, 60, 61, 66, 67, 68, 69, 70, 71, 72, 73, 74, 75, 76, 77, 78] (by decide +kernel) (by decide +kernel)
set_option maxRecDepth 20000 in
theorem gX3_pairAt_X3_pairOfScore : GoodIn wsX3_pairAt (wsV RX3 166 RX3 yX3_pairOfScore wsX3_pairOfScore) := goodIn_app (goodIn_of _ (by decide +kernel)) ggX3_pairAt_X3_pairOfScore
theorem dX3_pairAt_0 : decode cX3_pairAt 0 = .ok (.aload_n 0, 1) := by decide +kernel
theorem dX3_pairAt_1 : decode cX3_pairAt 1 = .ok (.invokevirtual 157, 3) := by decide +kernel
theorem dX3_pairAt_4 : decode cX3_pairAt 4 = .ok (.istore_n 2, 1) := by decide +kernel
theorem dX3_pairAt_5 : decode cX3_pairAt 5 = .ok (.iload_n 1, 1) := by decide +kernel
theorem dX3_pairAt_6 : decode cX3_pairAt 6 = .ok (.ifCond .lt 8, 3) := by decide +kernel
theorem dX3_pairAt_9 : decode cX3_pairAt 9 = .ok (.iload_n 1, 1) := by decide +kernel
theorem dX3_pairAt_10 : decode cX3_pairAt 10 = .ok (.iload_n 2, 1) := by decide +kernel
theorem dX3_pairAt_11 : decode cX3_pairAt 11 = .ok (.if_icmp .lt 13, 3) := by decide +kernel
theorem dX3_pairAt_14 : decode cX3_pairAt 14 = .ok (.new 161, 3) := by decide +kernel
theorem dX3_pairAt_17 : decode cX3_pairAt 17 = .ok (.dup, 1) := by decide +kernel
theorem dX3_pairAt_18 : decode cX3_pairAt 18 = .ok (.ldc 163, 2) := by decide +kernel
theorem dX3_pairAt_20 : decode cX3_pairAt 20 = .ok (.invokespecial 165, 3) := by decide +kernel
theorem dX3_pairAt_23 : decode cX3_pairAt 23 = .ok (.athrow, 1) := by decide +kernel
theorem dX3_pairAt_24 : decode cX3_pairAt 24 = .ok (.iload_n 1, 1) := by decide +kernel
theorem dX3_pairAt_25 : decode cX3_pairAt 25 = .ok (.istore_n 3, 1) := by decide +kernel
theorem dX3_pairAt_26 : decode cX3_pairAt 26 = .ok (.sipush 152, 3) := by decide +kernel
theorem dX3_pairAt_29 : decode cX3_pairAt 29 = .ok (.istore 4, 2) := by decide +kernel
theorem dX3_pairAt_31 : decode cX3_pairAt 31 = .ok (.iload 4, 2) := by decide +kernel
theorem dX3_pairAt_33 : decode cX3_pairAt 33 = .ok (.ifCond .le 30, 3) := by decide +kernel
theorem dX3_pairAt_36 : decode cX3_pairAt 36 = .ok (.iload_n 3, 1) := by decide +kernel
theorem dX3_pairAt_37 : decode cX3_pairAt 37 = .ok (.aload_n 0, 1) := by decide +kernel
theorem dX3_pairAt_38 : decode cX3_pairAt 38 = .ok (.getfield 30, 3) := by decide +kernel
theorem dX3_pairAt_41 : decode cX3_pairAt 41 = .ok (.iload 4, 2) := by decide +kernel
theorem dX3_pairAt_43 : decode cX3_pairAt 43 = .ok (.iaload, 1) := by decide +kernel
theorem dX3_pairAt_44 : decode cX3_pairAt 44 = .ok (.if_icmp .lt 19, 3) := by decide +kernel
theorem dX3_pairAt_47 : decode cX3_pairAt 47 = .ok (.iload_n 3, 1) := by decide +kernel
theorem dX3_pairAt_48 : decode cX3_pairAt 48 = .ok (.aload_n 0, 1) := by decide +kernel
theorem dX3_pairAt_49 : decode cX3_pairAt 49 = .ok (.getfield 30, 3) := by decide +kernel
theorem dX3_pairAt_52 : decode cX3_pairAt 52 = .ok (.iload 4, 2) := by decide +kernel
theorem dX3_pairAt_54 : decode cX3_pairAt 54 = .ok (.iaload, 1) := by decide +kernel
theorem dX3_pairAt_55 : decode cX3_pairAt 55 = .ok (.isub, 1) := by decide +kernel
theorem dX3_pairAt_56 : decode cX3_pairAt 56 = .ok (.istore_n 3, 1) := by decide +kernel
theorem dX3_pairAt_57 : decode cX3_pairAt 57 = .ok (.iinc 4 (-1), 3) := by decide +kernel
theorem dX3_pairAt_60 : decode cX3_pairAt 60 = .ok (.goto (-29), 3) := by decide +kernel
theorem dX3_pairAt_63 : decode cX3_pairAt 63 = .ok (.aload_n 0, 1) := by decide +kernel
theorem dX3_pairAt_64 : decode cX3_pairAt 64 = .ok (.iload 4, 2) := by decide +kernel
theorem dX3_pairAt_66 : decode cX3_pairAt 66 = .ok (.iload_n 3, 1) := by decide +kernel
theorem dX3_pairAt_67 : decode cX3_pairAt 67 = .ok (.invokevirtual 166, 3) := by decide +kernel
theorem dX3_pairAt_70 : decode cX3_pairAt 70 = .ok (.ireturn, 1) := by decide +kernel
set_option maxRecDepth 20000 in
theorem ggX3_turnDown_X3_checkTwoCards : GoodIn wsX3_turnDown wsX3_checkTwoCards := goodIn_ca (goodIn_ca (goodIn_r _ [9, 10, 11, 12, 8, 13, 14, 15, 4, 16, 17, 18, 19, 20, 85, 86, 87, 88, 89, 90, 91, 92, 93] (by decide +kernel) (by decide +kernel)) (goodIn_sub (fun _ h => List.mem_cons_of_mem _ (List.mem_append_left _ (List.mem_append_right _ h))) (by decide +kernel))) (goodIn_sub (fun _ h => List.mem_cons_of_mem _ (List.mem_append_right _ h)) (by decide +kernel))
set_option maxRecDepth 20000 in
theorem gX3_turnDown_X3_checkTwoCards : GoodIn wsX3_turnDown (wsV RX3 113 RX3 yX3_checkTwoCards wsX3_checkTwoCards) := goodIn_app (goodIn_of _ (by decide +kernel)) ggX3_turnDown_X3_checkTwoCards
set_option maxRecDepth 20000 in
theorem ggX3_turnDown_X3_suggestedScore : GoodIn wsX3_turnDown wsX3_suggestedScore := goodIn_r _ [24, 3, 4, 25, 26, 27, 28, 29, 30, 31, 32, 33, 34, 35, 36, 37, 38, 8, 39, 40, 41, 42, 43, 44, 45, 46, 47, 48, 49, 50, 51, 52, 53, 54, 55, 56, 57, 58, 59, 60, 61, 62, 63, 64, 65, 66, 67, 68, 69, 70, 71, 85, 86, 87, 88, 89, 90, 91, 92, 93, 94, 95, 96, 97] (by decide +kernel) (by decide +kernel)
set_option maxRecDepth 20000 in
theorem gX3_turnDown_X3_suggestedScore : GoodIn wsX3_turnDown (wsV RX3 169 RX3 yX3_suggestedScore wsX3_suggestedScore) := goodIn_app (goodIn_of _ (by decide +kernel)) ggX3_turnDown_X3_suggestedScore
set_option maxRecDepth 20000 in
theorem ggX3_turnDown_X2_refuseForGood : GoodIn wsX3_turnDown wsX2_refuseForGood := goodIn_r _ [75, 36, 94, 95] (by decide +kernel) (by decide +kernel)
set_option maxRecDepth 20000 in
theorem gX3_turnDown_X2_refuseForGood : GoodIn wsX3_turnDown (wsV RX3 174 RX2 yX2_refuseForGood wsX2_refuseForGood) := goodIn_app (goodIn_of _ (by decide +kernel)) ggX3_turnDown_X2_refuseForGood
set_option maxRecDepth 20000 in
theorem ggX3_turnDown_X0_mineChangesOf : GoodIn wsX3_turnDown wsX0_mineChangesOf := goodIn_r _ [29, 30, 89, 90, 91, 92, 93] (by decide +kernel) (by decide +kernel)
set_option maxRecDepth 20000 in
theorem gX3_turnDown_X0_mineChangesOf : GoodIn wsX3_turnDown (wsV RX3 177 RX0 yX0_mineChangesOf wsX0_mineChangesOf) := goodIn_app (goodIn_of _ (by decide +kernel)) ggX3_turnDown_X0_mineChangesOf
set_option maxRecDepth 20000 in
theorem ggX3_turnDown_X2_refuseForNow : GoodIn wsX3_turnDown wsX2_refuseForNow := goodIn_r _ [79, 37, 94, 95] (by decide +kernel) (by decide +kernel)
set_option maxRecDepth 20000 in
theorem gX3_turnDown_X2_refuseForNow : GoodIn wsX3_turnDown (wsV RX3 180 RX2 yX2_refuseForNow wsX2_refuseForNow) := goodIn_app (goodIn_of _ (by decide +kernel)) ggX3_turnDown_X2_refuseForNow
set_option maxRecDepth 20000 in
theorem ggX3_turnDown_X3_tallyPairs : GoodIn wsX3_turnDown wsX3_tallyPairs := goodIn_r _ [83, 84, 4, 21, 22, 23, 8, 24, 3, 25, 26, 27, 28, 29, 30, 31, 32, 33, 34, 35, 36, 37, 38, 39, 40, 41, 42, 43, 44, 45, 46, 47, 48, 49, 50, 51, 52, 53, 54, 55, 56, 57, 58, 59, 60, 61, 62, 63, 64, 65, 66, 67, 68, 69, 70, 71, 85, 86, 87, 88, 89, 90, 91, 92, 93, 94, 95, 96, 97] (by decide +kernel) (by decide +kernel)
set_option maxRecDepth 20000 in
theorem gX3_turnDown_X3_tallyPairs : GoodIn wsX3_turnDown (wsV RX3 157 RX3 yX3_tallyPairs wsX3_tallyPairs) := goodIn_app (goodIn_of _ (by decide +kernel)) ggX3_turnDown_X3_tallyPairs
theorem dX3_turnDown_0 : decode cX3_turnDown 0 = .ok (.aload_n 0, 1) := by decide +kernel
theorem dX3_turnDown_1 : decode cX3_turnDown 1 = .ok (.iload_n 1, 1) := by decide +kernel
theorem dX3_turnDown_2 : decode cX3_turnDown 2 = .ok (.iload_n 2, 1) := by decide +kernel
theorem dX3_turnDown_3 : decode cX3_turnDown 3 = .ok (.invokevirtual 113, 3) := by decide +kernel
theorem dX3_turnDown_6 : decode cX3_turnDown 6 = .ok (.aload_n 0, 1) := by decide +kernel
theorem dX3_turnDown_7 : decode cX3_turnDown 7 = .ok (.iload_n 1, 1) := by decide +kernel
theorem dX3_turnDown_8 : decode cX3_turnDown 8 = .ok (.iload_n 2, 1) := by decide +kernel
theorem dX3_turnDown_9 : decode cX3_turnDown 9 = .ok (.invokevirtual 169, 3) := by decide +kernel
theorem dX3_turnDown_12 : decode cX3_turnDown 12 = .ok (.ifCond .ne 13, 3) := by decide +kernel
theorem dX3_turnDown_15 : decode cX3_turnDown 15 = .ok (.new 50, 3) := by decide +kernel
theorem dX3_turnDown_18 : decode cX3_turnDown 18 = .ok (.dup, 1) := by decide +kernel
theorem dX3_turnDown_19 : decode cX3_turnDown 19 = .ok (.ldc 172, 2) := by decide +kernel
theorem dX3_turnDown_21 : decode cX3_turnDown 21 = .ok (.invokespecial 54, 3) := by decide +kernel
theorem dX3_turnDown_24 : decode cX3_turnDown 24 = .ok (.athrow, 1) := by decide +kernel
theorem dX3_turnDown_25 : decode cX3_turnDown 25 = .ok (.iload_n 3, 1) := by decide +kernel
theorem dX3_turnDown_26 : decode cX3_turnDown 26 = .ok (.ifCond .eq 15, 3) := by decide +kernel
theorem dX3_turnDown_29 : decode cX3_turnDown 29 = .ok (.aload_n 0, 1) := by decide +kernel
theorem dX3_turnDown_30 : decode cX3_turnDown 30 = .ok (.getfield 26, 3) := by decide +kernel
theorem dX3_turnDown_33 : decode cX3_turnDown 33 = .ok (.iload_n 1, 1) := by decide +kernel
theorem dX3_turnDown_34 : decode cX3_turnDown 34 = .ok (.iload_n 2, 1) := by decide +kernel
theorem dX3_turnDown_35 : decode cX3_turnDown 35 = .ok (.invokevirtual 174, 3) := by decide +kernel
theorem dX3_turnDown_38 : decode cX3_turnDown 38 = .ok (.goto 21, 3) := by decide +kernel
theorem dX3_turnDown_41 : decode cX3_turnDown 41 = .ok (.aload_n 0, 1) := by decide +kernel
theorem dX3_turnDown_42 : decode cX3_turnDown 42 = .ok (.getfield 26, 3) := by decide +kernel
theorem dX3_turnDown_45 : decode cX3_turnDown 45 = .ok (.iload_n 1, 1) := by decide +kernel
theorem dX3_turnDown_46 : decode cX3_turnDown 46 = .ok (.iload_n 2, 1) := by decide +kernel
theorem dX3_turnDown_47 : decode cX3_turnDown 47 = .ok (.aload_n 0, 1) := by decide +kernel
theorem dX3_turnDown_48 : decode cX3_turnDown 48 = .ok (.getfield 12, 3) := by decide +kernel
theorem dX3_turnDown_51 : decode cX3_turnDown 51 = .ok (.iload_n 1, 1) := by decide +kernel
theorem dX3_turnDown_52 : decode cX3_turnDown 52 = .ok (.iload_n 2, 1) := by decide +kernel
theorem dX3_turnDown_53 : decode cX3_turnDown 53 = .ok (.invokevirtual 177, 3) := by decide +kernel
theorem dX3_turnDown_56 : decode cX3_turnDown 56 = .ok (.invokevirtual 180, 3) := by decide +kernel
theorem dX3_turnDown_59 : decode cX3_turnDown 59 = .ok (.aload_n 0, 1) := by decide +kernel
theorem dX3_turnDown_60 : decode cX3_turnDown 60 = .ok (.invokevirtual 157, 3) := by decide +kernel
theorem dX3_turnDown_63 : decode cX3_turnDown 63 = .ok (.ireturn, 1) := by decide +kernel
theorem dX3_checkBook_0 : decode cX3_checkBook 0 = .ok (.iload_n 1, 1) := by decide +kernel
theorem dX3_checkBook_1 : decode cX3_checkBook 1 = .ok (.ifCond .lt 8, 3) := by decide +kernel
theorem dX3_checkBook_4 : decode cX3_checkBook 4 = .ok (.iload_n 1, 1) := by decide +kernel
theorem dX3_checkBook_5 : decode cX3_checkBook 5 = .ok (.iconst 3, 1) := by decide +kernel
theorem dX3_checkBook_6 : decode cX3_checkBook 6 = .ok (.if_icmp .lt 13, 3) := by decide +kernel
theorem dX3_checkBook_9 : decode cX3_checkBook 9 = .ok (.new 161, 3) := by decide +kernel
theorem dX3_checkBook_12 : decode cX3_checkBook 12 = .ok (.dup, 1) := by decide +kernel
theorem dX3_checkBook_13 : decode cX3_checkBook 13 = .ok (.ldc 183, 2) := by decide +kernel
theorem dX3_checkBook_15 : decode cX3_checkBook 15 = .ok (.invokespecial 165, 3) := by decide +kernel
theorem dX3_checkBook_18 : decode cX3_checkBook 18 = .ok (.athrow, 1) := by decide +kernel
theorem dX3_checkBook_19 : decode cX3_checkBook 19 = .ok (.return_, 1) := by decide +kernel
theorem dX3_checkCard_0 : decode cX3_checkCard 0 = .ok (.iload_n 1, 1) := by decide +kernel
theorem dX3_checkCard_1 : decode cX3_checkCard 1 = .ok (.ifCond .lt 14, 3) := by decide +kernel
theorem dX3_checkCard_4 : decode cX3_checkCard 4 = .ok (.iload_n 1, 1) := by decide +kernel
theorem dX3_checkCard_5 : decode cX3_checkCard 5 = .ok (.aload_n 0, 1) := by decide +kernel
theorem dX3_checkCard_6 : decode cX3_checkCard 6 = .ok (.getfield 12, 3) := by decide +kernel
theorem dX3_checkCard_9 : decode cX3_checkCard 9 = .ok (.getfield 46, 3) := by decide +kernel
theorem dX3_checkCard_12 : decode cX3_checkCard 12 = .ok (.if_icmp .lt 13, 3) := by decide +kernel
theorem dX3_checkCard_15 : decode cX3_checkCard 15 = .ok (.new 161, 3) := by decide +kernel
theorem dX3_checkCard_18 : decode cX3_checkCard 18 = .ok (.dup, 1) := by decide +kernel
theorem dX3_checkCard_19 : decode cX3_checkCard 19 = .ok (.ldc 185, 2) := by decide +kernel
theorem dX3_checkCard_21 : decode cX3_checkCard 21 = .ok (.invokespecial 165, 3) := by decide +kernel
theorem dX3_checkCard_24 : decode cX3_checkCard 24 = .ok (.athrow, 1) := by decide +kernel
theorem dX3_checkCard_25 : decode cX3_checkCard 25 = .ok (.return_, 1) := by decide +kernel
set_option maxRecDepth 20000 in
theorem ggX3_checkTwoCards_X3_checkCard : GoodIn wsX3_checkTwoCards wsX3_checkCard := goodIn_ca (goodIn_r _ [5, 6, 7, 8, 14, 15, 16, 17, 18, 19, 20, 21, 22] (by decide +kernel) (by decide +kernel)) (goodIn_sub (fun _ h => List.mem_cons_of_mem _ (List.mem_append_left _ (List.mem_append_right _ h))) (by decide +kernel))
set_option maxRecDepth 20000 in
theorem gX3_checkTwoCards_X3_checkCard : GoodIn wsX3_checkTwoCards (wsV RX3 61 RX3 yX3_checkCard wsX3_checkCard) := goodIn_app (goodIn_of _ (by decide +kernel)) ggX3_checkTwoCards_X3_checkCard
set_option maxRecDepth 20000 in
theorem ggX3_checkTwoCards_X3_checkArgument : GoodIn wsX3_checkTwoCards wsX3_checkArgument := goodIn_ca (goodIn_r _ [11, 12, 13] (by decide +kernel) (by decide +kernel)) (goodIn_sub (fun _ h => List.mem_cons_of_mem _ (List.mem_append_right _ h)) (by decide +kernel))
set_option maxRecDepth 20000 in
theorem gX3_checkTwoCards_X3_checkArgument : GoodIn wsX3_checkTwoCards (va_wsS RX3 42 yX3_checkArgument wsX3_checkArgument) := goodIn_app (goodIn_of _ (by decide +kernel)) ggX3_checkTwoCards_X3_checkArgument
theorem dX3_checkTwoCards_0 : decode cX3_checkTwoCards 0 = .ok (.aload_n 0, 1) := by decide +kernel
theorem dX3_checkTwoCards_1 : decode cX3_checkTwoCards 1 = .ok (.iload_n 1, 1) := by decide +kernel
theorem dX3_checkTwoCards_2 : decode cX3_checkTwoCards 2 = .ok (.invokevirtual 61, 3) := by decide +kernel
theorem dX3_checkTwoCards_5 : decode cX3_checkTwoCards 5 = .ok (.aload_n 0, 1) := by decide +kernel
theorem dX3_checkTwoCards_6 : decode cX3_checkTwoCards 6 = .ok (.iload_n 2, 1) := by decide +kernel
theorem dX3_checkTwoCards_7 : decode cX3_checkTwoCards 7 = .ok (.invokevirtual 61, 3) := by decide +kernel
theorem dX3_checkTwoCards_10 : decode cX3_checkTwoCards 10 = .ok (.iload_n 1, 1) := by decide +kernel
theorem dX3_checkTwoCards_11 : decode cX3_checkTwoCards 11 = .ok (.iload_n 2, 1) := by decide +kernel
theorem dX3_checkTwoCards_12 : decode cX3_checkTwoCards 12 = .ok (.if_icmp .eq 7, 3) := by decide +kernel
theorem dX3_checkTwoCards_15 : decode cX3_checkTwoCards 15 = .ok (.iconst 1, 1) := by decide +kernel
theorem dX3_checkTwoCards_16 : decode cX3_checkTwoCards 16 = .ok (.goto 4, 3) := by decide +kernel
theorem dX3_checkTwoCards_19 : decode cX3_checkTwoCards 19 = .ok (.iconst 0, 1) := by decide +kernel
theorem dX3_checkTwoCards_20 : decode cX3_checkTwoCards 20 = .ok (.invokestatic 42, 3) := by decide +kernel
theorem dX3_checkTwoCards_23 : decode cX3_checkTwoCards 23 = .ok (.return_, 1) := by decide +kernel
theorem dX3_checkArgument_0 : decode cX3_checkArgument 0 = .ok (.iload_n 0, 1) := by decide +kernel
theorem dX3_checkArgument_1 : decode cX3_checkArgument 1 = .ok (.ifCond .ne 13, 3) := by decide +kernel
theorem dX3_checkArgument_4 : decode cX3_checkArgument 4 = .ok (.new 187, 3) := by decide +kernel
theorem dX3_checkArgument_7 : decode cX3_checkArgument 7 = .ok (.dup, 1) := by decide +kernel
theorem dX3_checkArgument_8 : decode cX3_checkArgument 8 = .ok (.ldc 189, 2) := by decide +kernel
theorem dX3_checkArgument_10 : decode cX3_checkArgument 10 = .ok (.invokespecial 191, 3) := by decide +kernel
theorem dX3_checkArgument_13 : decode cX3_checkArgument 13 = .ok (.athrow, 1) := by decide +kernel
theorem dX3_checkArgument_14 : decode cX3_checkArgument 14 = .ok (.return_, 1) := by decide +kernel
theorem dX3_isName_0 : decode cX3_isName 0 = .ok (.iload_n 0, 1) := by decide +kernel
theorem dX3_isName_1 : decode cX3_isName 1 = .ok (.ifCond .lt 13, 3) := by decide +kernel
theorem dX3_isName_4 : decode cX3_isName 4 = .ok (.iload_n 0, 1) := by decide +kernel
theorem dX3_isName_5 : decode cX3_isName 5 = .ok (.bipush 32, 2) := by decide +kernel
theorem dX3_isName_7 : decode cX3_isName 7 = .ok (.if_icmp .ge 7, 3) := by decide +kernel
theorem dX3_isName_10 : decode cX3_isName 10 = .ok (.iconst 1, 1) := by decide +kernel
theorem dX3_isName_11 : decode cX3_isName 11 = .ok (.goto 4, 3) := by decide +kernel
theorem dX3_isName_14 : decode cX3_isName 14 = .ok (.iconst 0, 1) := by decide +kernel
theorem dX3_isName_15 : decode cX3_isName 15 = .ok (.ireturn, 1) := by decide +kernel
theorem dX3_isValue_0 : decode cX3_isValue 0 = .ok (.iload_n 0, 1) := by decide +kernel
theorem dX3_isValue_1 : decode cX3_isValue 1 = .ok (.ifCond .lt 13, 3) := by decide +kernel
theorem dX3_isValue_4 : decode cX3_isValue 4 = .ok (.iload_n 0, 1) := by decide +kernel
theorem dX3_isValue_5 : decode cX3_isValue 5 = .ok (.bipush 30, 2) := by decide +kernel
theorem dX3_isValue_7 : decode cX3_isValue 7 = .ok (.if_icmp .ge 7, 3) := by decide +kernel
theorem dX3_isValue_10 : decode cX3_isValue 10 = .ok (.iconst 1, 1) := by decide +kernel
theorem dX3_isValue_11 : decode cX3_isValue 11 = .ok (.goto 4, 3) := by decide +kernel
theorem dX3_isValue_14 : decode cX3_isValue 14 = .ok (.iconst 0, 1) := by decide +kernel
theorem dX3_isValue_15 : decode cX3_isValue 15 = .ok (.ireturn, 1) := by decide +kernel
theorem dX3_isKind_0 : decode cX3_isKind 0 = .ok (.iload_n 0, 1) := by decide +kernel
theorem dX3_isKind_1 : decode cX3_isKind 1 = .ok (.ifCond .eq 8, 3) := by decide +kernel
theorem dX3_isKind_4 : decode cX3_isKind 4 = .ok (.iload_n 0, 1) := by decide +kernel
theorem dX3_isKind_5 : decode cX3_isKind 5 = .ok (.iconst 1, 1) := by decide +kernel
theorem dX3_isKind_6 : decode cX3_isKind 6 = .ok (.if_icmp .ne 7, 3) := by decide +kernel
theorem dX3_isKind_9 : decode cX3_isKind 9 = .ok (.iconst 1, 1) := by decide +kernel
theorem dX3_isKind_10 : decode cX3_isKind 10 = .ok (.goto 4, 3) := by decide +kernel
theorem dX3_isKind_13 : decode cX3_isKind 13 = .ok (.iconst 0, 1) := by decide +kernel
theorem dX3_isKind_14 : decode cX3_isKind 14 = .ok (.ireturn, 1) := by decide +kernel
theorem dX3_isChangeable_0 : decode cX3_isChangeable 0 = .ok (.iload_n 0, 1) := by decide +kernel
theorem dX3_isChangeable_1 : decode cX3_isChangeable 1 = .ok (.ifCond .eq 8, 3) := by decide +kernel
theorem dX3_isChangeable_4 : decode cX3_isChangeable 4 = .ok (.iload_n 0, 1) := by decide +kernel
theorem dX3_isChangeable_5 : decode cX3_isChangeable 5 = .ok (.iconst 1, 1) := by decide +kernel
theorem dX3_isChangeable_6 : decode cX3_isChangeable 6 = .ok (.if_icmp .ne 7, 3) := by decide +kernel
theorem dX3_isChangeable_9 : decode cX3_isChangeable 9 = .ok (.iconst 1, 1) := by decide +kernel
theorem dX3_isChangeable_10 : decode cX3_isChangeable 10 = .ok (.goto 4, 3) := by decide +kernel
theorem dX3_isChangeable_13 : decode cX3_isChangeable 13 = .ok (.iconst 0, 1) := by decide +kernel
theorem dX3_isChangeable_14 : decode cX3_isChangeable 14 = .ok (.ireturn, 1) := by decide +kernel
set_option maxRecDepth 20000 in
theorem ggX3_isVersion_X3_isChangeable : GoodIn wsX3_isVersion wsX3_isChangeable := goodIn_r _ [4] (by decide +kernel) (by decide +kernel)
set_option maxRecDepth 20000 in
theorem gX3_isVersion_X3_isChangeable : GoodIn wsX3_isVersion (va_wsS RX3 64 yX3_isChangeable wsX3_isChangeable) := goodIn_app (goodIn_of _ (by decide +kernel)) ggX3_isVersion_X3_isChangeable
theorem dX3_isVersion_0 : decode cX3_isVersion 0 = .ok (.iload_n 0, 1) := by decide +kernel
theorem dX3_isVersion_1 : decode cX3_isVersion 1 = .ok (.invokestatic 64, 3) := by decide +kernel
theorem dX3_isVersion_4 : decode cX3_isVersion 4 = .ok (.ifCond .ne 8, 3) := by decide +kernel
theorem dX3_isVersion_7 : decode cX3_isVersion 7 = .ok (.iload_n 0, 1) := by decide +kernel
theorem dX3_isVersion_8 : decode cX3_isVersion 8 = .ok (.iconst 2, 1) := by decide +kernel
theorem dX3_isVersion_9 : decode cX3_isVersion 9 = .ok (.if_icmp .ne 7, 3) := by decide +kernel
theorem dX3_isVersion_12 : decode cX3_isVersion 12 = .ok (.iconst 1, 1) := by decide +kernel
theorem dX3_isVersion_13 : decode cX3_isVersion 13 = .ok (.goto 4, 3) := by decide +kernel
theorem dX3_isVersion_16 : decode cX3_isVersion 16 = .ok (.iconst 0, 1) := by decide +kernel
theorem dX3_isVersion_17 : decode cX3_isVersion 17 = .ok (.ireturn, 1) := by decide +kernel
theorem dX3_has_0 : decode cX3_has 0 = .ok (.iload_n 0, 1) := by decide +kernel
theorem dX3_has_1 : decode cX3_has 1 = .ok (.iconst 1, 1) := by decide +kernel
theorem dX3_has_2 : decode cX3_has 2 = .ok (.iload_n 1, 1) := by decide +kernel
theorem dX3_has_3 : decode cX3_has 3 = .ok (.ishl, 1) := by decide +kernel
theorem dX3_has_4 : decode cX3_has 4 = .ok (.iand, 1) := by decide +kernel
theorem dX3_has_5 : decode cX3_has 5 = .ok (.ifCond .eq 7, 3) := by decide +kernel
theorem dX3_has_8 : decode cX3_has 8 = .ok (.iconst 1, 1) := by decide +kernel
theorem dX3_has_9 : decode cX3_has 9 = .ok (.goto 4, 3) := by decide +kernel
theorem dX3_has_12 : decode cX3_has 12 = .ok (.iconst 0, 1) := by decide +kernel
theorem dX3_has_13 : decode cX3_has 13 = .ok (.ireturn, 1) := by decide +kernel
set_option maxRecDepth 20000 in
theorem ggX3_takeOutOfMine_X0_setOf : GoodIn wsX3_takeOutOfMine wsX0_setOf := goodIn_r _ [6, 7, 22, 23, 24, 25, 26] (by decide +kernel) (by decide +kernel)
set_option maxRecDepth 20000 in
theorem gX3_takeOutOfMine_X0_setOf : GoodIn wsX3_takeOutOfMine (wsV RX3 73 RX0 yX0_setOf wsX0_setOf) := goodIn_app (goodIn_of _ (by decide +kernel)) ggX3_takeOutOfMine_X0_setOf
set_option maxRecDepth 20000 in
theorem ggX3_takeOutOfMine_X3_has : GoodIn wsX3_takeOutOfMine wsX3_has := goodIn_r _ [11] (by decide +kernel) (by decide +kernel)
set_option maxRecDepth 20000 in
theorem gX3_takeOutOfMine_X3_has : GoodIn wsX3_takeOutOfMine (va_wsS RX3 81 yX3_has wsX3_has) := goodIn_app (goodIn_of _ (by decide +kernel)) ggX3_takeOutOfMine_X3_has
set_option maxRecDepth 20000 in
theorem ggX3_takeOutOfMine_X0_putSet : GoodIn wsX3_takeOutOfMine wsX0_putSet := goodIn_r _ [15, 16, 7, 17, 3, 4, 5, 6, 22, 23, 24, 25, 26] (by decide +kernel) (by decide +kernel)
set_option maxRecDepth 20000 in
theorem gX3_takeOutOfMine_X0_putSet : GoodIn wsX3_takeOutOfMine (wsV RX3 77 RX0 yX0_putSet wsX0_putSet) := goodIn_app (goodIn_of _ (by decide +kernel)) ggX3_takeOutOfMine_X0_putSet
theorem dX3_takeOutOfMine_0 : decode cX3_takeOutOfMine 0 = .ok (.iconst 0, 1) := by decide +kernel
theorem dX3_takeOutOfMine_1 : decode cX3_takeOutOfMine 1 = .ok (.istore 4, 2) := by decide +kernel
theorem dX3_takeOutOfMine_3 : decode cX3_takeOutOfMine 3 = .ok (.iconst 0, 1) := by decide +kernel
theorem dX3_takeOutOfMine_4 : decode cX3_takeOutOfMine 4 = .ok (.istore 5, 2) := by decide +kernel
theorem dX3_takeOutOfMine_6 : decode cX3_takeOutOfMine 6 = .ok (.iload 5, 2) := by decide +kernel
theorem dX3_takeOutOfMine_8 : decode cX3_takeOutOfMine 8 = .ok (.aload_n 0, 1) := by decide +kernel
theorem dX3_takeOutOfMine_9 : decode cX3_takeOutOfMine 9 = .ok (.getfield 12, 3) := by decide +kernel
theorem dX3_takeOutOfMine_12 : decode cX3_takeOutOfMine 12 = .ok (.getfield 46, 3) := by decide +kernel
theorem dX3_takeOutOfMine_15 : decode cX3_takeOutOfMine 15 = .ok (.if_icmp .ge 68, 3) := by decide +kernel
theorem dX3_takeOutOfMine_18 : decode cX3_takeOutOfMine 18 = .ok (.aload_n 0, 1) := by decide +kernel
theorem dX3_takeOutOfMine_19 : decode cX3_takeOutOfMine 19 = .ok (.getfield 12, 3) := by decide +kernel
theorem dX3_takeOutOfMine_22 : decode cX3_takeOutOfMine 22 = .ok (.iload 5, 2) := by decide +kernel
theorem dX3_takeOutOfMine_24 : decode cX3_takeOutOfMine 24 = .ok (.iconst 0, 1) := by decide +kernel
theorem dX3_takeOutOfMine_25 : decode cX3_takeOutOfMine 25 = .ok (.iload_n 2, 1) := by decide +kernel
theorem dX3_takeOutOfMine_26 : decode cX3_takeOutOfMine 26 = .ok (.invokevirtual 73, 3) := by decide +kernel
theorem dX3_takeOutOfMine_29 : decode cX3_takeOutOfMine 29 = .ok (.istore 6, 2) := by decide +kernel
theorem dX3_takeOutOfMine_31 : decode cX3_takeOutOfMine 31 = .ok (.iload_n 1, 1) := by decide +kernel
theorem dX3_takeOutOfMine_32 : decode cX3_takeOutOfMine 32 = .ok (.iload 5, 2) := by decide +kernel
theorem dX3_takeOutOfMine_34 : decode cX3_takeOutOfMine 34 = .ok (.invokestatic 81, 3) := by decide +kernel
theorem dX3_takeOutOfMine_37 : decode cX3_takeOutOfMine 37 = .ok (.ifCond .eq 40, 3) := by decide +kernel
theorem dX3_takeOutOfMine_40 : decode cX3_takeOutOfMine 40 = .ok (.iload 6, 2) := by decide +kernel
theorem dX3_takeOutOfMine_42 : decode cX3_takeOutOfMine 42 = .ok (.iload_n 3, 1) := by decide +kernel
theorem dX3_takeOutOfMine_43 : decode cX3_takeOutOfMine 43 = .ok (.invokestatic 81, 3) := by decide +kernel
theorem dX3_takeOutOfMine_46 : decode cX3_takeOutOfMine 46 = .ok (.ifCond .eq 31, 3) := by decide +kernel
theorem dX3_takeOutOfMine_49 : decode cX3_takeOutOfMine 49 = .ok (.aload_n 0, 1) := by decide +kernel
theorem dX3_takeOutOfMine_50 : decode cX3_takeOutOfMine 50 = .ok (.getfield 12, 3) := by decide +kernel
theorem dX3_takeOutOfMine_53 : decode cX3_takeOutOfMine 53 = .ok (.iload 5, 2) := by decide +kernel
theorem dX3_takeOutOfMine_55 : decode cX3_takeOutOfMine 55 = .ok (.iconst 0, 1) := by decide +kernel
theorem dX3_takeOutOfMine_56 : decode cX3_takeOutOfMine 56 = .ok (.iload_n 2, 1) := by decide +kernel
theorem dX3_takeOutOfMine_57 : decode cX3_takeOutOfMine 57 = .ok (.iload 6, 2) := by decide +kernel
theorem dX3_takeOutOfMine_59 : decode cX3_takeOutOfMine 59 = .ok (.iconst 1, 1) := by decide +kernel
theorem dX3_takeOutOfMine_60 : decode cX3_takeOutOfMine 60 = .ok (.iload_n 3, 1) := by decide +kernel
theorem dX3_takeOutOfMine_61 : decode cX3_takeOutOfMine 61 = .ok (.ishl, 1) := by decide +kernel
theorem dX3_takeOutOfMine_62 : decode cX3_takeOutOfMine 62 = .ok (.iconst (-1), 1) := by decide +kernel
theorem dX3_takeOutOfMine_63 : decode cX3_takeOutOfMine 63 = .ok (.ixor, 1) := by decide +kernel
theorem dX3_takeOutOfMine_64 : decode cX3_takeOutOfMine 64 = .ok (.iand, 1) := by decide +kernel
theorem dX3_takeOutOfMine_65 : decode cX3_takeOutOfMine 65 = .ok (.invokevirtual 77, 3) := by decide +kernel
theorem dX3_takeOutOfMine_68 : decode cX3_takeOutOfMine 68 = .ok (.iload 4, 2) := by decide +kernel
theorem dX3_takeOutOfMine_70 : decode cX3_takeOutOfMine 70 = .ok (.iconst 1, 1) := by decide +kernel
theorem dX3_takeOutOfMine_71 : decode cX3_takeOutOfMine 71 = .ok (.iload 5, 2) := by decide +kernel
theorem dX3_takeOutOfMine_73 : decode cX3_takeOutOfMine 73 = .ok (.ishl, 1) := by decide +kernel
theorem dX3_takeOutOfMine_74 : decode cX3_takeOutOfMine 74 = .ok (.ior, 1) := by decide +kernel
theorem dX3_takeOutOfMine_75 : decode cX3_takeOutOfMine 75 = .ok (.istore 4, 2) := by decide +kernel
theorem dX3_takeOutOfMine_77 : decode cX3_takeOutOfMine 77 = .ok (.iinc 5 1, 3) := by decide +kernel
theorem dX3_takeOutOfMine_80 : decode cX3_takeOutOfMine 80 = .ok (.goto (-74), 3) := by decide +kernel
theorem dX3_takeOutOfMine_83 : decode cX3_takeOutOfMine 83 = .ok (.iload 4, 2) := by decide +kernel
theorem dX3_takeOutOfMine_85 : decode cX3_takeOutOfMine 85 = .ok (.ireturn, 1) := by decide +kernel
set_option maxRecDepth 20000 in
theorem ggX3_scoreOf_X1_areTogether : GoodIn wsX3_scoreOf wsX1_areTogether := goodIn_r _ [7, 8, 9, 10, 11, 38, 39] (by decide +kernel) (by decide +kernel)
set_option maxRecDepth 20000 in
theorem gX3_scoreOf_X1_areTogether : GoodIn wsX3_scoreOf (wsV RX3 139 RX1 yX1_areTogether wsX1_areTogether) := goodIn_app (goodIn_of _ (by decide +kernel)) ggX3_scoreOf_X1_areTogether
set_option maxRecDepth 20000 in
theorem ggX3_scoreOf_X0_countShared : GoodIn wsX3_scoreOf wsX0_countShared := goodIn_r _ [16, 17, 18, 19, 15, 20, 21, 22, 23, 24, 25, 26, 27, 28, 40, 41, 42, 43, 44] (by decide +kernel) (by decide +kernel)
set_option maxRecDepth 20000 in
theorem gX3_scoreOf_X0_countShared : GoodIn wsX3_scoreOf (wsV RX3 192 RX0 yX0_countShared wsX0_countShared) := goodIn_app (goodIn_of _ (by decide +kernel)) ggX3_scoreOf_X0_countShared
set_option maxRecDepth 20000 in
theorem ggX3_scoreOf_X0_nameIn : GoodIn wsX3_scoreOf wsX0_nameIn := goodIn_r _ [32, 33, 40, 41, 42, 43, 44] (by decide +kernel) (by decide +kernel)
set_option maxRecDepth 20000 in
theorem gX3_scoreOf_X0_nameIn : GoodIn wsX3_scoreOf (wsV RX3 85 RX0 yX0_nameIn wsX0_nameIn) := goodIn_app (goodIn_of _ (by decide +kernel)) ggX3_scoreOf_X0_nameIn
theorem dX3_scoreOf_0 : decode cX3_scoreOf 0 = .ok (.aload_n 0, 1) := by decide +kernel
theorem dX3_scoreOf_1 : decode cX3_scoreOf 1 = .ok (.getfield 19, 3) := by decide +kernel
theorem dX3_scoreOf_4 : decode cX3_scoreOf 4 = .ok (.iload_n 1, 1) := by decide +kernel
theorem dX3_scoreOf_5 : decode cX3_scoreOf 5 = .ok (.iload_n 2, 1) := by decide +kernel
theorem dX3_scoreOf_6 : decode cX3_scoreOf 6 = .ok (.invokevirtual 139, 3) := by decide +kernel
theorem dX3_scoreOf_9 : decode cX3_scoreOf 9 = .ok (.ifCond .eq 5, 3) := by decide +kernel
theorem dX3_scoreOf_12 : decode cX3_scoreOf 12 = .ok (.iconst 0, 1) := by decide +kernel
theorem dX3_scoreOf_13 : decode cX3_scoreOf 13 = .ok (.ireturn, 1) := by decide +kernel
theorem dX3_scoreOf_14 : decode cX3_scoreOf 14 = .ok (.iconst 3, 1) := by decide +kernel
theorem dX3_scoreOf_15 : decode cX3_scoreOf 15 = .ok (.aload_n 0, 1) := by decide +kernel
theorem dX3_scoreOf_16 : decode cX3_scoreOf 16 = .ok (.getfield 12, 3) := by decide +kernel
theorem dX3_scoreOf_19 : decode cX3_scoreOf 19 = .ok (.iload_n 1, 1) := by decide +kernel
theorem dX3_scoreOf_20 : decode cX3_scoreOf 20 = .ok (.iload_n 2, 1) := by decide +kernel
theorem dX3_scoreOf_21 : decode cX3_scoreOf 21 = .ok (.iconst 0, 1) := by decide +kernel
theorem dX3_scoreOf_22 : decode cX3_scoreOf 22 = .ok (.invokevirtual 192, 3) := by decide +kernel
theorem dX3_scoreOf_25 : decode cX3_scoreOf 25 = .ok (.imul, 1) := by decide +kernel
theorem dX3_scoreOf_26 : decode cX3_scoreOf 26 = .ok (.iconst 2, 1) := by decide +kernel
theorem dX3_scoreOf_27 : decode cX3_scoreOf 27 = .ok (.aload_n 0, 1) := by decide +kernel
theorem dX3_scoreOf_28 : decode cX3_scoreOf 28 = .ok (.getfield 12, 3) := by decide +kernel
theorem dX3_scoreOf_31 : decode cX3_scoreOf 31 = .ok (.iload_n 1, 1) := by decide +kernel
theorem dX3_scoreOf_32 : decode cX3_scoreOf 32 = .ok (.iload_n 2, 1) := by decide +kernel
theorem dX3_scoreOf_33 : decode cX3_scoreOf 33 = .ok (.iconst 1, 1) := by decide +kernel
theorem dX3_scoreOf_34 : decode cX3_scoreOf 34 = .ok (.invokevirtual 192, 3) := by decide +kernel
theorem dX3_scoreOf_37 : decode cX3_scoreOf 37 = .ok (.imul, 1) := by decide +kernel
theorem dX3_scoreOf_38 : decode cX3_scoreOf 38 = .ok (.iadd, 1) := by decide +kernel
theorem dX3_scoreOf_39 : decode cX3_scoreOf 39 = .ok (.istore_n 3, 1) := by decide +kernel
theorem dX3_scoreOf_40 : decode cX3_scoreOf 40 = .ok (.aload_n 0, 1) := by decide +kernel
theorem dX3_scoreOf_41 : decode cX3_scoreOf 41 = .ok (.getfield 12, 3) := by decide +kernel
theorem dX3_scoreOf_44 : decode cX3_scoreOf 44 = .ok (.iload_n 1, 1) := by decide +kernel
theorem dX3_scoreOf_45 : decode cX3_scoreOf 45 = .ok (.iconst 0, 1) := by decide +kernel
theorem dX3_scoreOf_46 : decode cX3_scoreOf 46 = .ok (.invokevirtual 85, 3) := by decide +kernel
theorem dX3_scoreOf_49 : decode cX3_scoreOf 49 = .ok (.aload_n 0, 1) := by decide +kernel
theorem dX3_scoreOf_50 : decode cX3_scoreOf 50 = .ok (.getfield 12, 3) := by decide +kernel
theorem dX3_scoreOf_53 : decode cX3_scoreOf 53 = .ok (.iload_n 2, 1) := by decide +kernel
theorem dX3_scoreOf_54 : decode cX3_scoreOf 54 = .ok (.iconst 0, 1) := by decide +kernel
theorem dX3_scoreOf_55 : decode cX3_scoreOf 55 = .ok (.invokevirtual 85, 3) := by decide +kernel
theorem dX3_scoreOf_58 : decode cX3_scoreOf 58 = .ok (.if_icmp .ne 7, 3) := by decide +kernel
theorem dX3_scoreOf_61 : decode cX3_scoreOf 61 = .ok (.iconst 1, 1) := by decide +kernel
theorem dX3_scoreOf_62 : decode cX3_scoreOf 62 = .ok (.goto 4, 3) := by decide +kernel
theorem dX3_scoreOf_65 : decode cX3_scoreOf 65 = .ok (.iconst 0, 1) := by decide +kernel
theorem dX3_scoreOf_66 : decode cX3_scoreOf 66 = .ok (.istore 4, 2) := by decide +kernel
theorem dX3_scoreOf_68 : decode cX3_scoreOf 68 = .ok (.iload 4, 2) := by decide +kernel
theorem dX3_scoreOf_70 : decode cX3_scoreOf 70 = .ok (.ifCond .eq 9, 3) := by decide +kernel
theorem dX3_scoreOf_73 : decode cX3_scoreOf 73 = .ok (.iload_n 3, 1) := by decide +kernel
theorem dX3_scoreOf_74 : decode cX3_scoreOf 74 = .ok (.iconst 2, 1) := by decide +kernel
theorem dX3_scoreOf_75 : decode cX3_scoreOf 75 = .ok (.iadd, 1) := by decide +kernel
theorem dX3_scoreOf_76 : decode cX3_scoreOf 76 = .ok (.goto 4, 3) := by decide +kernel
theorem dX3_scoreOf_79 : decode cX3_scoreOf 79 = .ok (.iload_n 3, 1) := by decide +kernel
theorem dX3_scoreOf_80 : decode cX3_scoreOf 80 = .ok (.ireturn, 1) := by decide +kernel
set_option maxRecDepth 20000 in
theorem ggX3_suggestedScore_X0_mineChangesOf : GoodIn wsX3_suggestedScore wsX0_mineChangesOf := goodIn_r _ [7, 8, 55, 56, 57, 58, 59] (by decide +kernel) (by decide +kernel)
set_option maxRecDepth 20000 in
theorem gX3_suggestedScore_X0_mineChangesOf : GoodIn wsX3_suggestedScore (wsV RX3 177 RX0 yX0_mineChangesOf wsX0_mineChangesOf) := goodIn_app (goodIn_of _ (by decide +kernel)) ggX3_suggestedScore_X0_mineChangesOf
set_option maxRecDepth 20000 in
theorem ggX3_suggestedScore_X2_stands : GoodIn wsX3_suggestedScore wsX2_stands := goodIn_r _ [13, 14, 15, 16, 17, 18, 60, 61] (by decide +kernel) (by decide +kernel)
set_option maxRecDepth 20000 in
theorem gX3_suggestedScore_X2_stands : GoodIn wsX3_suggestedScore (wsV RX3 195 RX2 yX2_stands wsX2_stands) := goodIn_app (goodIn_of _ (by decide +kernel)) ggX3_suggestedScore_X2_stands
set_option maxRecDepth 20000 in
theorem ggX3_suggestedScore_X3_scoreOf : GoodIn wsX3_suggestedScore wsX3_scoreOf := goodIn_r _ [22, 23, 2, 24, 25, 26, 27, 28, 29, 16, 17, 18, 30, 31, 32, 6, 33, 34, 35, 36, 37, 38, 39, 40, 41, 42, 43, 44, 45, 46, 47, 48, 49, 50, 51, 52, 53, 54, 62, 63, 55, 56, 57, 58, 59] (by decide +kernel) (by decide +kernel)
set_option maxRecDepth 20000 in
theorem gX3_suggestedScore_X3_scoreOf : GoodIn wsX3_suggestedScore (wsV RX3 154 RX3 yX3_scoreOf wsX3_scoreOf) := goodIn_app (goodIn_of _ (by decide +kernel)) ggX3_suggestedScore_X3_scoreOf
theorem dX3_suggestedScore_0 : decode cX3_suggestedScore 0 = .ok (.aload_n 0, 1) := by decide +kernel
theorem dX3_suggestedScore_1 : decode cX3_suggestedScore 1 = .ok (.getfield 26, 3) := by decide +kernel
theorem dX3_suggestedScore_4 : decode cX3_suggestedScore 4 = .ok (.iload_n 1, 1) := by decide +kernel
theorem dX3_suggestedScore_5 : decode cX3_suggestedScore 5 = .ok (.iload_n 2, 1) := by decide +kernel
theorem dX3_suggestedScore_6 : decode cX3_suggestedScore 6 = .ok (.aload_n 0, 1) := by decide +kernel
theorem dX3_suggestedScore_7 : decode cX3_suggestedScore 7 = .ok (.getfield 12, 3) := by decide +kernel
theorem dX3_suggestedScore_10 : decode cX3_suggestedScore 10 = .ok (.iload_n 1, 1) := by decide +kernel
theorem dX3_suggestedScore_11 : decode cX3_suggestedScore 11 = .ok (.iload_n 2, 1) := by decide +kernel
theorem dX3_suggestedScore_12 : decode cX3_suggestedScore 12 = .ok (.invokevirtual 177, 3) := by decide +kernel
theorem dX3_suggestedScore_15 : decode cX3_suggestedScore 15 = .ok (.invokevirtual 195, 3) := by decide +kernel
theorem dX3_suggestedScore_18 : decode cX3_suggestedScore 18 = .ok (.ifCond .eq 5, 3) := by decide +kernel
theorem dX3_suggestedScore_21 : decode cX3_suggestedScore 21 = .ok (.iconst 0, 1) := by decide +kernel
theorem dX3_suggestedScore_22 : decode cX3_suggestedScore 22 = .ok (.ireturn, 1) := by decide +kernel
theorem dX3_suggestedScore_23 : decode cX3_suggestedScore 23 = .ok (.aload_n 0, 1) := by decide +kernel
theorem dX3_suggestedScore_24 : decode cX3_suggestedScore 24 = .ok (.iload_n 1, 1) := by decide +kernel
theorem dX3_suggestedScore_25 : decode cX3_suggestedScore 25 = .ok (.iload_n 2, 1) := by decide +kernel
theorem dX3_suggestedScore_26 : decode cX3_suggestedScore 26 = .ok (.invokevirtual 154, 3) := by decide +kernel
theorem dX3_suggestedScore_29 : decode cX3_suggestedScore 29 = .ok (.ireturn, 1) := by decide +kernel
set_option maxRecDepth 20000 in
theorem ggX3_tallyPairs_X3_suggestedScore : GoodIn wsX3_tallyPairs wsX3_suggestedScore := goodIn_r _ [7, 8, 2, 9, 10, 11, 12, 13, 14, 15, 16, 17, 18, 19, 20, 21, 22, 6, 23, 24, 25, 26, 27, 28, 29, 30, 31, 32, 33, 34, 35, 36, 37, 38, 39, 40, 41, 42, 43, 44, 45, 46, 47, 48, 49, 50, 51, 52, 53, 54, 55, 56, 57, 58, 59, 60, 61, 62, 63, 64, 65, 66, 67, 68] (by decide +kernel) (by decide +kernel)
set_option maxRecDepth 20000 in
theorem gX3_tallyPairs_X3_suggestedScore : GoodIn wsX3_tallyPairs (wsV RX3 169 RX3 yX3_suggestedScore wsX3_suggestedScore) := goodIn_app (goodIn_of _ (by decide +kernel)) ggX3_tallyPairs_X3_suggestedScore
theorem dX3_tallyPairs_0 : decode cX3_tallyPairs 0 = .ok (.iconst 0, 1) := by decide +kernel
theorem dX3_tallyPairs_1 : decode cX3_tallyPairs 1 = .ok (.istore_n 1, 1) := by decide +kernel
theorem dX3_tallyPairs_2 : decode cX3_tallyPairs 2 = .ok (.iload_n 1, 1) := by decide +kernel
theorem dX3_tallyPairs_3 : decode cX3_tallyPairs 3 = .ok (.sipush 152, 3) := by decide +kernel
theorem dX3_tallyPairs_6 : decode cX3_tallyPairs 6 = .ok (.if_icmp .gt 16, 3) := by decide +kernel
theorem dX3_tallyPairs_9 : decode cX3_tallyPairs 9 = .ok (.aload_n 0, 1) := by decide +kernel
theorem dX3_tallyPairs_10 : decode cX3_tallyPairs 10 = .ok (.getfield 30, 3) := by decide +kernel
theorem dX3_tallyPairs_13 : decode cX3_tallyPairs 13 = .ok (.iload_n 1, 1) := by decide +kernel
theorem dX3_tallyPairs_14 : decode cX3_tallyPairs 14 = .ok (.iconst 0, 1) := by decide +kernel
theorem dX3_tallyPairs_15 : decode cX3_tallyPairs 15 = .ok (.iastore, 1) := by decide +kernel
theorem dX3_tallyPairs_16 : decode cX3_tallyPairs 16 = .ok (.iinc 1 1, 3) := by decide +kernel
theorem dX3_tallyPairs_19 : decode cX3_tallyPairs 19 = .ok (.goto (-17), 3) := by decide +kernel
theorem dX3_tallyPairs_22 : decode cX3_tallyPairs 22 = .ok (.iconst 0, 1) := by decide +kernel
theorem dX3_tallyPairs_23 : decode cX3_tallyPairs 23 = .ok (.istore_n 1, 1) := by decide +kernel
theorem dX3_tallyPairs_24 : decode cX3_tallyPairs 24 = .ok (.iconst 0, 1) := by decide +kernel
theorem dX3_tallyPairs_25 : decode cX3_tallyPairs 25 = .ok (.istore_n 2, 1) := by decide +kernel
theorem dX3_tallyPairs_26 : decode cX3_tallyPairs 26 = .ok (.iload_n 2, 1) := by decide +kernel
theorem dX3_tallyPairs_27 : decode cX3_tallyPairs 27 = .ok (.aload_n 0, 1) := by decide +kernel
theorem dX3_tallyPairs_28 : decode cX3_tallyPairs 28 = .ok (.getfield 12, 3) := by decide +kernel
theorem dX3_tallyPairs_31 : decode cX3_tallyPairs 31 = .ok (.getfield 46, 3) := by decide +kernel
theorem dX3_tallyPairs_34 : decode cX3_tallyPairs 34 = .ok (.if_icmp .ge 65, 3) := by decide +kernel
theorem dX3_tallyPairs_37 : decode cX3_tallyPairs 37 = .ok (.iload_n 2, 1) := by decide +kernel
theorem dX3_tallyPairs_38 : decode cX3_tallyPairs 38 = .ok (.iconst 1, 1) := by decide +kernel
theorem dX3_tallyPairs_39 : decode cX3_tallyPairs 39 = .ok (.iadd, 1) := by decide +kernel
theorem dX3_tallyPairs_40 : decode cX3_tallyPairs 40 = .ok (.istore_n 3, 1) := by decide +kernel
theorem dX3_tallyPairs_41 : decode cX3_tallyPairs 41 = .ok (.iload_n 3, 1) := by decide +kernel
theorem dX3_tallyPairs_42 : decode cX3_tallyPairs 42 = .ok (.aload_n 0, 1) := by decide +kernel
theorem dX3_tallyPairs_43 : decode cX3_tallyPairs 43 = .ok (.getfield 12, 3) := by decide +kernel
theorem dX3_tallyPairs_46 : decode cX3_tallyPairs 46 = .ok (.getfield 46, 3) := by decide +kernel
theorem dX3_tallyPairs_49 : decode cX3_tallyPairs 49 = .ok (.if_icmp .ge 44, 3) := by decide +kernel
theorem dX3_tallyPairs_52 : decode cX3_tallyPairs 52 = .ok (.aload_n 0, 1) := by decide +kernel
theorem dX3_tallyPairs_53 : decode cX3_tallyPairs 53 = .ok (.iload_n 2, 1) := by decide +kernel
theorem dX3_tallyPairs_54 : decode cX3_tallyPairs 54 = .ok (.iload_n 3, 1) := by decide +kernel
theorem dX3_tallyPairs_55 : decode cX3_tallyPairs 55 = .ok (.invokevirtual 169, 3) := by decide +kernel
theorem dX3_tallyPairs_58 : decode cX3_tallyPairs 58 = .ok (.istore 4, 2) := by decide +kernel
theorem dX3_tallyPairs_60 : decode cX3_tallyPairs 60 = .ok (.iload 4, 2) := by decide +kernel
theorem dX3_tallyPairs_62 : decode cX3_tallyPairs 62 = .ok (.ifCond .le 25, 3) := by decide +kernel
theorem dX3_tallyPairs_65 : decode cX3_tallyPairs 65 = .ok (.iload 4, 2) := by decide +kernel
theorem dX3_tallyPairs_67 : decode cX3_tallyPairs 67 = .ok (.sipush 152, 3) := by decide +kernel
theorem dX3_tallyPairs_70 : decode cX3_tallyPairs 70 = .ok (.if_icmp .gt 17, 3) := by decide +kernel
theorem dX3_tallyPairs_73 : decode cX3_tallyPairs 73 = .ok (.aload_n 0, 1) := by decide +kernel
theorem dX3_tallyPairs_74 : decode cX3_tallyPairs 74 = .ok (.getfield 30, 3) := by decide +kernel
theorem dX3_tallyPairs_77 : decode cX3_tallyPairs 77 = .ok (.iload 4, 2) := by decide +kernel
theorem dX3_tallyPairs_79 : decode cX3_tallyPairs 79 = .ok (.dup2, 1) := by decide +kernel
theorem dX3_tallyPairs_80 : decode cX3_tallyPairs 80 = .ok (.iaload, 1) := by decide +kernel
theorem dX3_tallyPairs_81 : decode cX3_tallyPairs 81 = .ok (.iconst 1, 1) := by decide +kernel
theorem dX3_tallyPairs_82 : decode cX3_tallyPairs 82 = .ok (.iadd, 1) := by decide +kernel
theorem dX3_tallyPairs_83 : decode cX3_tallyPairs 83 = .ok (.iastore, 1) := by decide +kernel
theorem dX3_tallyPairs_84 : decode cX3_tallyPairs 84 = .ok (.iinc 1 1, 3) := by decide +kernel
theorem dX3_tallyPairs_87 : decode cX3_tallyPairs 87 = .ok (.iinc 3 1, 3) := by decide +kernel
theorem dX3_tallyPairs_90 : decode cX3_tallyPairs 90 = .ok (.goto (-49), 3) := by decide +kernel
theorem dX3_tallyPairs_93 : decode cX3_tallyPairs 93 = .ok (.iinc 2 1, 3) := by decide +kernel
theorem dX3_tallyPairs_96 : decode cX3_tallyPairs 96 = .ok (.goto (-70), 3) := by decide +kernel
theorem dX3_tallyPairs_99 : decode cX3_tallyPairs 99 = .ok (.iload_n 1, 1) := by decide +kernel
theorem dX3_tallyPairs_100 : decode cX3_tallyPairs 100 = .ok (.ireturn, 1) := by decide +kernel
set_option maxRecDepth 20000 in
theorem ggX3_pairOfScore_X3_suggestedScore : GoodIn wsX3_pairOfScore wsX3_suggestedScore := goodIn_r _ [6, 7, 1, 8, 9, 10, 11, 12, 13, 14, 15, 16, 17, 18, 19, 20, 21, 5, 22, 23, 24, 25, 26, 27, 28, 29, 30, 31, 32, 33, 34, 35, 36, 37, 38, 39, 40, 41, 42, 43, 44, 45, 46, 47, 48, 49, 50, 51, 52, 53, 54, 55, 56, 57, 58, 59, 60, 61, 62, 63, 64, 65, 66, 67] (by decide +kernel) (by decide +kernel)
set_option maxRecDepth 20000 in
theorem gX3_pairOfScore_X3_suggestedScore : GoodIn wsX3_pairOfScore (wsV RX3 169 RX3 yX3_suggestedScore wsX3_suggestedScore) := goodIn_app (goodIn_of _ (by decide +kernel)) ggX3_pairOfScore_X3_suggestedScore
theorem dX3_pairOfScore_0 : decode cX3_pairOfScore 0 = .ok (.iload_n 2, 1) := by decide +kernel
theorem dX3_pairOfScore_1 : decode cX3_pairOfScore 1 = .ok (.istore_n 3, 1) := by decide +kernel
theorem dX3_pairOfScore_2 : decode cX3_pairOfScore 2 = .ok (.iconst 0, 1) := by decide +kernel
theorem dX3_pairOfScore_3 : decode cX3_pairOfScore 3 = .ok (.istore 4, 2) := by decide +kernel
theorem dX3_pairOfScore_5 : decode cX3_pairOfScore 5 = .ok (.iload 4, 2) := by decide +kernel
theorem dX3_pairOfScore_7 : decode cX3_pairOfScore 7 = .ok (.aload_n 0, 1) := by decide +kernel
theorem dX3_pairOfScore_8 : decode cX3_pairOfScore 8 = .ok (.getfield 12, 3) := by decide +kernel
theorem dX3_pairOfScore_11 : decode cX3_pairOfScore 11 = .ok (.getfield 46, 3) := by decide +kernel
theorem dX3_pairOfScore_14 : decode cX3_pairOfScore 14 = .ok (.if_icmp .ge 61, 3) := by decide +kernel
theorem dX3_pairOfScore_17 : decode cX3_pairOfScore 17 = .ok (.iload 4, 2) := by decide +kernel
theorem dX3_pairOfScore_19 : decode cX3_pairOfScore 19 = .ok (.iconst 1, 1) := by decide +kernel
theorem dX3_pairOfScore_20 : decode cX3_pairOfScore 20 = .ok (.iadd, 1) := by decide +kernel
theorem dX3_pairOfScore_21 : decode cX3_pairOfScore 21 = .ok (.istore 5, 2) := by decide +kernel
theorem dX3_pairOfScore_23 : decode cX3_pairOfScore 23 = .ok (.iload 5, 2) := by decide +kernel
theorem dX3_pairOfScore_25 : decode cX3_pairOfScore 25 = .ok (.aload_n 0, 1) := by decide +kernel
theorem dX3_pairOfScore_26 : decode cX3_pairOfScore 26 = .ok (.getfield 12, 3) := by decide +kernel
theorem dX3_pairOfScore_29 : decode cX3_pairOfScore 29 = .ok (.getfield 46, 3) := by decide +kernel
theorem dX3_pairOfScore_32 : decode cX3_pairOfScore 32 = .ok (.if_icmp .ge 37, 3) := by decide +kernel
theorem dX3_pairOfScore_35 : decode cX3_pairOfScore 35 = .ok (.aload_n 0, 1) := by decide +kernel
theorem dX3_pairOfScore_36 : decode cX3_pairOfScore 36 = .ok (.iload 4, 2) := by decide +kernel
theorem dX3_pairOfScore_38 : decode cX3_pairOfScore 38 = .ok (.iload 5, 2) := by decide +kernel
theorem dX3_pairOfScore_40 : decode cX3_pairOfScore 40 = .ok (.invokevirtual 169, 3) := by decide +kernel
theorem dX3_pairOfScore_43 : decode cX3_pairOfScore 43 = .ok (.iload_n 1, 1) := by decide +kernel
theorem dX3_pairOfScore_44 : decode cX3_pairOfScore 44 = .ok (.if_icmp .ne 19, 3) := by decide +kernel
theorem dX3_pairOfScore_47 : decode cX3_pairOfScore 47 = .ok (.iload_n 3, 1) := by decide +kernel
theorem dX3_pairOfScore_48 : decode cX3_pairOfScore 48 = .ok (.ifCond .ne 12, 3) := by decide +kernel
theorem dX3_pairOfScore_51 : decode cX3_pairOfScore 51 = .ok (.bipush 100, 2) := by decide +kernel
theorem dX3_pairOfScore_53 : decode cX3_pairOfScore 53 = .ok (.iload 4, 2) := by decide +kernel
theorem dX3_pairOfScore_55 : decode cX3_pairOfScore 55 = .ok (.imul, 1) := by decide +kernel
theorem dX3_pairOfScore_56 : decode cX3_pairOfScore 56 = .ok (.iload 5, 2) := by decide +kernel
theorem dX3_pairOfScore_58 : decode cX3_pairOfScore 58 = .ok (.iadd, 1) := by decide +kernel
theorem dX3_pairOfScore_59 : decode cX3_pairOfScore 59 = .ok (.ireturn, 1) := by decide +kernel
theorem dX3_pairOfScore_60 : decode cX3_pairOfScore 60 = .ok (.iinc 3 (-1), 3) := by decide +kernel
theorem dX3_pairOfScore_63 : decode cX3_pairOfScore 63 = .ok (.iinc 5 1, 3) := by decide +kernel
theorem dX3_pairOfScore_66 : decode cX3_pairOfScore 66 = .ok (.goto (-43), 3) := by decide +kernel
theorem dX3_pairOfScore_69 : decode cX3_pairOfScore 69 = .ok (.iinc 4 1, 3) := by decide +kernel
theorem dX3_pairOfScore_72 : decode cX3_pairOfScore 72 = .ok (.goto (-67), 3) := by decide +kernel
theorem dX3_pairOfScore_75 : decode cX3_pairOfScore 75 = .ok (.iconst (-1), 1) := by decide +kernel
theorem dX3_pairOfScore_76 : decode cX3_pairOfScore 76 = .ok (.ireturn, 1) := by decide +kernel
theorem dJ6_bitCount_0f7a4_0 : decode cJ6_bitCount_0f7a4 0 = .ok (.iload_n 0, 1) := by decide +kernel
theorem dJ6_bitCount_0f7a4_1 : decode cJ6_bitCount_0f7a4 1 = .ok (.iload_n 0, 1) := by decide +kernel
theorem dJ6_bitCount_0f7a4_2 : decode cJ6_bitCount_0f7a4 2 = .ok (.iconst 1, 1) := by decide +kernel
theorem dJ6_bitCount_0f7a4_3 : decode cJ6_bitCount_0f7a4 3 = .ok (.iushr, 1) := by decide +kernel
theorem dJ6_bitCount_0f7a4_4 : decode cJ6_bitCount_0f7a4 4 = .ok (.ldc_w 265, 3) := by decide +kernel
theorem dJ6_bitCount_0f7a4_7 : decode cJ6_bitCount_0f7a4 7 = .ok (.iand, 1) := by decide +kernel
theorem dJ6_bitCount_0f7a4_8 : decode cJ6_bitCount_0f7a4 8 = .ok (.isub, 1) := by decide +kernel
theorem dJ6_bitCount_0f7a4_9 : decode cJ6_bitCount_0f7a4 9 = .ok (.istore_n 0, 1) := by decide +kernel
theorem dJ6_bitCount_0f7a4_10 : decode cJ6_bitCount_0f7a4 10 = .ok (.iload_n 0, 1) := by decide +kernel
theorem dJ6_bitCount_0f7a4_11 : decode cJ6_bitCount_0f7a4 11 = .ok (.ldc_w 266, 3) := by decide +kernel
theorem dJ6_bitCount_0f7a4_14 : decode cJ6_bitCount_0f7a4 14 = .ok (.iand, 1) := by decide +kernel
theorem dJ6_bitCount_0f7a4_15 : decode cJ6_bitCount_0f7a4 15 = .ok (.iload_n 0, 1) := by decide +kernel
theorem dJ6_bitCount_0f7a4_16 : decode cJ6_bitCount_0f7a4 16 = .ok (.iconst 2, 1) := by decide +kernel
theorem dJ6_bitCount_0f7a4_17 : decode cJ6_bitCount_0f7a4 17 = .ok (.iushr, 1) := by decide +kernel
theorem dJ6_bitCount_0f7a4_18 : decode cJ6_bitCount_0f7a4 18 = .ok (.ldc_w 266, 3) := by decide +kernel
theorem dJ6_bitCount_0f7a4_21 : decode cJ6_bitCount_0f7a4 21 = .ok (.iand, 1) := by decide +kernel
theorem dJ6_bitCount_0f7a4_22 : decode cJ6_bitCount_0f7a4 22 = .ok (.iadd, 1) := by decide +kernel
theorem dJ6_bitCount_0f7a4_23 : decode cJ6_bitCount_0f7a4 23 = .ok (.istore_n 0, 1) := by decide +kernel
theorem dJ6_bitCount_0f7a4_24 : decode cJ6_bitCount_0f7a4 24 = .ok (.iload_n 0, 1) := by decide +kernel
theorem dJ6_bitCount_0f7a4_25 : decode cJ6_bitCount_0f7a4 25 = .ok (.iload_n 0, 1) := by decide +kernel
theorem dJ6_bitCount_0f7a4_26 : decode cJ6_bitCount_0f7a4 26 = .ok (.iconst 4, 1) := by decide +kernel
theorem dJ6_bitCount_0f7a4_27 : decode cJ6_bitCount_0f7a4 27 = .ok (.iushr, 1) := by decide +kernel
theorem dJ6_bitCount_0f7a4_28 : decode cJ6_bitCount_0f7a4 28 = .ok (.iadd, 1) := by decide +kernel
theorem dJ6_bitCount_0f7a4_29 : decode cJ6_bitCount_0f7a4 29 = .ok (.ldc_w 267, 3) := by decide +kernel
theorem dJ6_bitCount_0f7a4_32 : decode cJ6_bitCount_0f7a4 32 = .ok (.iand, 1) := by decide +kernel
theorem dJ6_bitCount_0f7a4_33 : decode cJ6_bitCount_0f7a4 33 = .ok (.istore_n 0, 1) := by decide +kernel
theorem dJ6_bitCount_0f7a4_34 : decode cJ6_bitCount_0f7a4 34 = .ok (.iload_n 0, 1) := by decide +kernel
theorem dJ6_bitCount_0f7a4_35 : decode cJ6_bitCount_0f7a4 35 = .ok (.iload_n 0, 1) := by decide +kernel
theorem dJ6_bitCount_0f7a4_36 : decode cJ6_bitCount_0f7a4 36 = .ok (.bipush 8, 2) := by decide +kernel
theorem dJ6_bitCount_0f7a4_38 : decode cJ6_bitCount_0f7a4 38 = .ok (.iushr, 1) := by decide +kernel
theorem dJ6_bitCount_0f7a4_39 : decode cJ6_bitCount_0f7a4 39 = .ok (.iadd, 1) := by decide +kernel
theorem dJ6_bitCount_0f7a4_40 : decode cJ6_bitCount_0f7a4 40 = .ok (.istore_n 0, 1) := by decide +kernel
theorem dJ6_bitCount_0f7a4_41 : decode cJ6_bitCount_0f7a4 41 = .ok (.iload_n 0, 1) := by decide +kernel
theorem dJ6_bitCount_0f7a4_42 : decode cJ6_bitCount_0f7a4 42 = .ok (.iload_n 0, 1) := by decide +kernel
theorem dJ6_bitCount_0f7a4_43 : decode cJ6_bitCount_0f7a4 43 = .ok (.bipush 16, 2) := by decide +kernel
theorem dJ6_bitCount_0f7a4_45 : decode cJ6_bitCount_0f7a4 45 = .ok (.iushr, 1) := by decide +kernel
theorem dJ6_bitCount_0f7a4_46 : decode cJ6_bitCount_0f7a4 46 = .ok (.iadd, 1) := by decide +kernel
theorem dJ6_bitCount_0f7a4_47 : decode cJ6_bitCount_0f7a4 47 = .ok (.istore_n 0, 1) := by decide +kernel
theorem dJ6_bitCount_0f7a4_48 : decode cJ6_bitCount_0f7a4 48 = .ok (.iload_n 0, 1) := by decide +kernel
theorem dJ6_bitCount_0f7a4_49 : decode cJ6_bitCount_0f7a4 49 = .ok (.bipush 63, 2) := by decide +kernel
theorem dJ6_bitCount_0f7a4_51 : decode cJ6_bitCount_0f7a4 51 = .ok (.iand, 1) := by decide +kernel
theorem dJ6_bitCount_0f7a4_52 : decode cJ6_bitCount_0f7a4 52 = .ok (.ireturn, 1) := by decide +kernel
end
section
theorem dX4_init_0 : decode cX4_init 0 = .ok (.aload_n 0, 1) := by decide +kernel
theorem dX4_init_1 : decode cX4_init 1 = .ok (.invokespecial 1, 3) := by decide +kernel
theorem dX4_init_4 : decode cX4_init 4 = .ok (.aload_n 0, 1) := by decide +kernel
theorem dX4_init_5 : decode cX4_init 5 = .ok (.bipush 24, 2) := by decide +kernel
theorem dX4_init_7 : decode cX4_init 7 = .ok (.newarray .int, 2) := by decide +kernel
theorem dX4_init_9 : decode cX4_init 9 = .ok (.putfield 7, 3) := by decide +kernel
theorem dX4_init_12 : decode cX4_init 12 = .ok (.aload_n 0, 1) := by decide +kernel
theorem dX4_init_13 : decode cX4_init 13 = .ok (.bipush 72, 2) := by decide +kernel
theorem dX4_init_15 : decode cX4_init 15 = .ok (.newarray .int, 2) := by decide +kernel
theorem dX4_init_17 : decode cX4_init 17 = .ok (.putfield 13, 3) := by decide +kernel
theorem dX4_init_20 : decode cX4_init 20 = .ok (.aload_n 0, 1) := by decide +kernel
theorem dX4_init_21 : decode cX4_init 21 = .ok (.sipush 144, 3) := by decide +kernel
theorem dX4_init_24 : decode cX4_init 24 = .ok (.newarray .int, 2) := by decide +kernel
theorem dX4_init_26 : decode cX4_init 26 = .ok (.putfield 16, 3) := by decide +kernel
theorem dX4_init_29 : decode cX4_init 29 = .ok (.aload_n 0, 1) := by decide +kernel
theorem dX4_init_30 : decode cX4_init 30 = .ok (.bipush 24, 2) := by decide +kernel
theorem dX4_init_32 : decode cX4_init 32 = .ok (.newarray .int, 2) := by decide +kernel
theorem dX4_init_34 : decode cX4_init 34 = .ok (.putfield 19, 3) := by decide +kernel
theorem dX4_init_37 : decode cX4_init 37 = .ok (.aload_n 0, 1) := by decide +kernel
theorem dX4_init_38 : decode cX4_init 38 = .ok (.bipush 24, 2) := by decide +kernel
theorem dX4_init_40 : decode cX4_init 40 = .ok (.newarray .int, 2) := by decide +kernel
theorem dX4_init_42 : decode cX4_init 42 = .ok (.putfield 22, 3) := by decide +kernel
theorem dX4_init_45 : decode cX4_init 45 = .ok (.aload_n 0, 1) := by decide +kernel
theorem dX4_init_46 : decode cX4_init 46 = .ok (.bipush 24, 2) := by decide +kernel
theorem dX4_init_48 : decode cX4_init 48 = .ok (.newarray .int, 2) := by decide +kernel
theorem dX4_init_50 : decode cX4_init 50 = .ok (.putfield 25, 3) := by decide +kernel
theorem dX4_init_53 : decode cX4_init 53 = .ok (.aload_n 0, 1) := by decide +kernel
theorem dX4_init_54 : decode cX4_init 54 = .ok (.sipush 576, 3) := by decide +kernel
theorem dX4_init_57 : decode cX4_init 57 = .ok (.newarray .int, 2) := by decide +kernel
theorem dX4_init_59 : decode cX4_init 59 = .ok (.putfield 28, 3) := by decide +kernel
theorem dX4_init_62 : decode cX4_init 62 = .ok (.return_, 1) := by decide +kernel
theorem dX4_thrown_0 : decode cX4_thrown 0 = .ok (.aload_n 0, 1) := by decide +kernel
theorem dX4_thrown_1 : decode cX4_thrown 1 = .ok (.getfield 31, 3) := by decide +kernel
theorem dX4_thrown_4 : decode cX4_thrown 4 = .ok (.ireturn, 1) := by decide +kernel
theorem dX4_isFine_0 : decode cX4_isFine 0 = .ok (.aload_n 0, 1) := by decide +kernel
theorem dX4_isFine_1 : decode cX4_isFine 1 = .ok (.iload_n 1, 1) := by decide +kernel
theorem dX4_isFine_2 : decode cX4_isFine 2 = .ok (.putfield 31, 3) := by decide +kernel
theorem dX4_isFine_5 : decode cX4_isFine 5 = .ok (.iload_n 1, 1) := by decide +kernel
theorem dX4_isFine_6 : decode cX4_isFine 6 = .ok (.ifCond .ne 7, 3) := by decide +kernel
theorem dX4_isFine_9 : decode cX4_isFine 9 = .ok (.iconst 1, 1) := by decide +kernel
theorem dX4_isFine_10 : decode cX4_isFine 10 = .ok (.goto 4, 3) := by decide +kernel
theorem dX4_isFine_13 : decode cX4_isFine 13 = .ok (.iconst 0, 1) := by decide +kernel
theorem dX4_isFine_14 : decode cX4_isFine 14 = .ok (.ireturn, 1) := by decide +kernel
theorem dX4_isIn_0 : decode cX4_isIn 0 = .ok (.iload_n 0, 1) := by decide +kernel
theorem dX4_isIn_1 : decode cX4_isIn 1 = .ok (.iload_n 1, 1) := by decide +kernel
theorem dX4_isIn_2 : decode cX4_isIn 2 = .ok (.if_icmp .lt 12, 3) := by decide +kernel
theorem dX4_isIn_5 : decode cX4_isIn 5 = .ok (.iload_n 0, 1) := by decide +kernel
theorem dX4_isIn_6 : decode cX4_isIn 6 = .ok (.iload_n 2, 1) := by decide +kernel
theorem dX4_isIn_7 : decode cX4_isIn 7 = .ok (.if_icmp .gt 7, 3) := by decide +kernel
theorem dX4_isIn_10 : decode cX4_isIn 10 = .ok (.iconst 1, 1) := by decide +kernel
theorem dX4_isIn_11 : decode cX4_isIn 11 = .ok (.goto 4, 3) := by decide +kernel
theorem dX4_isIn_14 : decode cX4_isIn 14 = .ok (.iconst 0, 1) := by decide +kernel
theorem dX4_isIn_15 : decode cX4_isIn 15 = .ok (.ireturn, 1) := by decide +kernel
set_option maxRecDepth 20000 in
theorem ggX4_isCard_X4_isIn : GoodIn wsX4_isCard wsX4_isIn := goodIn_r _ [5] (by decide +kernel) (by decide +kernel)
set_option maxRecDepth 20000 in
theorem gX4_isCard_X4_isIn : GoodIn wsX4_isCard (va_wsS RX4 38 yX4_isIn wsX4_isIn) := goodIn_app (goodIn_of _ (by decide +kernel)) ggX4_isCard_X4_isIn
theorem dX4_isCard_0 : decode cX4_isCard 0 = .ok (.iload_n 1, 1) := by decide +kernel
theorem dX4_isCard_1 : decode cX4_isCard 1 = .ok (.iconst 0, 1) := by decide +kernel
theorem dX4_isCard_2 : decode cX4_isCard 2 = .ok (.aload_n 0, 1) := by decide +kernel
theorem dX4_isCard_3 : decode cX4_isCard 3 = .ok (.getfield 35, 3) := by decide +kernel
theorem dX4_isCard_6 : decode cX4_isCard 6 = .ok (.iconst 1, 1) := by decide +kernel
theorem dX4_isCard_7 : decode cX4_isCard 7 = .ok (.isub, 1) := by decide +kernel
theorem dX4_isCard_8 : decode cX4_isCard 8 = .ok (.invokestatic 38, 3) := by decide +kernel
theorem dX4_isCard_11 : decode cX4_isCard 11 = .ok (.ireturn, 1) := by decide +kernel
set_option maxRecDepth 20000 in
theorem ggX4_isBook_X4_isIn : GoodIn wsX4_isBook wsX4_isIn := goodIn_r _ [4] (by decide +kernel) (by decide +kernel)
set_option maxRecDepth 20000 in
theorem gX4_isBook_X4_isIn : GoodIn wsX4_isBook (va_wsS RX4 38 yX4_isIn wsX4_isIn) := goodIn_app (goodIn_of _ (by decide +kernel)) ggX4_isBook_X4_isIn
theorem dX4_isBook_0 : decode cX4_isBook 0 = .ok (.iload_n 0, 1) := by decide +kernel
theorem dX4_isBook_1 : decode cX4_isBook 1 = .ok (.iconst 0, 1) := by decide +kernel
theorem dX4_isBook_2 : decode cX4_isBook 2 = .ok (.iconst 2, 1) := by decide +kernel
theorem dX4_isBook_3 : decode cX4_isBook 3 = .ok (.invokestatic 38, 3) := by decide +kernel
theorem dX4_isBook_6 : decode cX4_isBook 6 = .ok (.ireturn, 1) := by decide +kernel
set_option maxRecDepth 20000 in
theorem ggX4_isKind_X4_isIn : GoodIn wsX4_isKind wsX4_isIn := goodIn_r _ [4] (by decide +kernel) (by decide +kernel)
set_option maxRecDepth 20000 in
theorem gX4_isKind_X4_isIn : GoodIn wsX4_isKind (va_wsS RX4 38 yX4_isIn wsX4_isIn) := goodIn_app (goodIn_of _ (by decide +kernel)) ggX4_isKind_X4_isIn
theorem dX4_isKind_0 : decode cX4_isKind 0 = .ok (.iload_n 0, 1) := by decide +kernel
theorem dX4_isKind_1 : decode cX4_isKind 1 = .ok (.iconst 0, 1) := by decide +kernel
theorem dX4_isKind_2 : decode cX4_isKind 2 = .ok (.iconst 1, 1) := by decide +kernel
theorem dX4_isKind_3 : decode cX4_isKind 3 = .ok (.invokestatic 38, 3) := by decide +kernel
theorem dX4_isKind_6 : decode cX4_isKind 6 = .ok (.ireturn, 1) := by decide +kernel
theorem dX4_at_0 : decode cX4_at 0 = .ok (.iconst 2, 1) := by decide +kernel
theorem dX4_at_1 : decode cX4_at 1 = .ok (.iconst 3, 1) := by decide +kernel
theorem dX4_at_2 : decode cX4_at 2 = .ok (.iload_n 0, 1) := by decide +kernel
theorem dX4_at_3 : decode cX4_at 3 = .ok (.imul, 1) := by decide +kernel
theorem dX4_at_4 : decode cX4_at 4 = .ok (.iload_n 1, 1) := by decide +kernel
theorem dX4_at_5 : decode cX4_at 5 = .ok (.iadd, 1) := by decide +kernel
theorem dX4_at_6 : decode cX4_at 6 = .ok (.imul, 1) := by decide +kernel
theorem dX4_at_7 : decode cX4_at 7 = .ok (.iload_n 2, 1) := by decide +kernel
theorem dX4_at_8 : decode cX4_at 8 = .ok (.iadd, 1) := by decide +kernel
theorem dX4_at_9 : decode cX4_at 9 = .ok (.ireturn, 1) := by decide +kernel
theorem dX4_count_0 : decode cX4_count 0 = .ok (.iconst 0, 1) := by decide +kernel
theorem dX4_count_1 : decode cX4_count 1 = .ok (.istore_n 1, 1) := by decide +kernel
theorem dX4_count_2 : decode cX4_count 2 = .ok (.iconst 0, 1) := by decide +kernel
theorem dX4_count_3 : decode cX4_count 3 = .ok (.istore_n 2, 1) := by decide +kernel
theorem dX4_count_4 : decode cX4_count 4 = .ok (.iload_n 2, 1) := by decide +kernel
theorem dX4_count_5 : decode cX4_count 5 = .ok (.bipush 30, 2) := by decide +kernel
theorem dX4_count_7 : decode cX4_count 7 = .ok (.if_icmp .ge 17, 3) := by decide +kernel
theorem dX4_count_10 : decode cX4_count 10 = .ok (.iload_n 1, 1) := by decide +kernel
theorem dX4_count_11 : decode cX4_count 11 = .ok (.iload_n 0, 1) := by decide +kernel
theorem dX4_count_12 : decode cX4_count 12 = .ok (.iload_n 2, 1) := by decide +kernel
theorem dX4_count_13 : decode cX4_count 13 = .ok (.ishr, 1) := by decide +kernel
theorem dX4_count_14 : decode cX4_count 14 = .ok (.iconst 1, 1) := by decide +kernel
theorem dX4_count_15 : decode cX4_count 15 = .ok (.iand, 1) := by decide +kernel
theorem dX4_count_16 : decode cX4_count 16 = .ok (.iadd, 1) := by decide +kernel
theorem dX4_count_17 : decode cX4_count 17 = .ok (.istore_n 1, 1) := by decide +kernel
theorem dX4_count_18 : decode cX4_count 18 = .ok (.iinc 2 1, 3) := by decide +kernel
theorem dX4_count_21 : decode cX4_count 21 = .ok (.goto (-17), 3) := by decide +kernel
theorem dX4_count_24 : decode cX4_count 24 = .ok (.iload_n 1, 1) := by decide +kernel
theorem dX4_count_25 : decode cX4_count 25 = .ok (.ireturn, 1) := by decide +kernel
theorem dX4_has_0 : decode cX4_has 0 = .ok (.iload_n 0, 1) := by decide +kernel
theorem dX4_has_1 : decode cX4_has 1 = .ok (.iload_n 1, 1) := by decide +kernel
theorem dX4_has_2 : decode cX4_has 2 = .ok (.ishr, 1) := by decide +kernel
theorem dX4_has_3 : decode cX4_has 3 = .ok (.iconst 1, 1) := by decide +kernel
theorem dX4_has_4 : decode cX4_has 4 = .ok (.iand, 1) := by decide +kernel
theorem dX4_has_5 : decode cX4_has 5 = .ok (.iconst 1, 1) := by decide +kernel
theorem dX4_has_6 : decode cX4_has 6 = .ok (.if_icmp .ne 7, 3) := by decide +kernel
theorem dX4_has_9 : decode cX4_has 9 = .ok (.iconst 1, 1) := by decide +kernel
theorem dX4_has_10 : decode cX4_has 10 = .ok (.goto 4, 3) := by decide +kernel
theorem dX4_has_13 : decode cX4_has 13 = .ok (.iconst 0, 1) := by decide +kernel
theorem dX4_has_14 : decode cX4_has 14 = .ok (.ireturn, 1) := by decide +kernel
set_option maxRecDepth 20000 in
theorem ggX4_add_X4_isBook : GoodIn wsX4_add wsX4_isBook := goodIn_r _ [7, 8, 9, 6, 10] (by decide +kernel) (by decide +kernel)
set_option maxRecDepth 20000 in
theorem gX4_add_X4_isBook : GoodIn wsX4_add (va_wsS RX4 42 yX4_isBook wsX4_isBook) := goodIn_app (goodIn_of _ (by decide +kernel)) ggX4_add_X4_isBook
set_option maxRecDepth 20000 in
theorem ggX4_add_X4_isIn : GoodIn wsX4_add wsX4_isIn := goodIn_r _ [10] (by decide +kernel) (by decide +kernel)
set_option maxRecDepth 20000 in
theorem gX4_add_X4_isIn : GoodIn wsX4_add (va_wsS RX4 38 yX4_isIn wsX4_isIn) := goodIn_app (goodIn_of _ (by decide +kernel)) ggX4_add_X4_isIn
set_option maxRecDepth 20000 in
theorem ggX4_add_X4_isFine : GoodIn wsX4_add wsX4_isFine := goodIn_r _ [14, 15, 16, 17, 18, 19, 20, 21, 22, 23, 24] (by decide +kernel) (by decide +kernel)
set_option maxRecDepth 20000 in
theorem gX4_add_X4_isFine : GoodIn wsX4_add (wsV RX4 46 RX4 yX4_isFine wsX4_isFine) := goodIn_app (goodIn_of _ (by decide +kernel)) ggX4_add_X4_isFine
theorem dX4_add_0 : decode cX4_add 0 = .ok (.aload_n 0, 1) := by decide +kernel
theorem dX4_add_1 : decode cX4_add 1 = .ok (.iload_n 1, 1) := by decide +kernel
theorem dX4_add_2 : decode cX4_add 2 = .ok (.invokestatic 42, 3) := by decide +kernel
theorem dX4_add_5 : decode cX4_add 5 = .ok (.ifCond .ne 7, 3) := by decide +kernel
theorem dX4_add_8 : decode cX4_add 8 = .ok (.iconst 1, 1) := by decide +kernel
theorem dX4_add_9 : decode cX4_add 9 = .ok (.goto 31, 3) := by decide +kernel
theorem dX4_add_12 : decode cX4_add 12 = .ok (.iload_n 2, 1) := by decide +kernel
theorem dX4_add_13 : decode cX4_add 13 = .ok (.iconst 0, 1) := by decide +kernel
theorem dX4_add_14 : decode cX4_add 14 = .ok (.bipush 31, 2) := by decide +kernel
theorem dX4_add_16 : decode cX4_add 16 = .ok (.invokestatic 38, 3) := by decide +kernel
theorem dX4_add_19 : decode cX4_add 19 = .ok (.ifCond .ne 7, 3) := by decide +kernel
theorem dX4_add_22 : decode cX4_add 22 = .ok (.iconst 2, 1) := by decide +kernel
theorem dX4_add_23 : decode cX4_add 23 = .ok (.goto 17, 3) := by decide +kernel
theorem dX4_add_26 : decode cX4_add 26 = .ok (.aload_n 0, 1) := by decide +kernel
theorem dX4_add_27 : decode cX4_add 27 = .ok (.getfield 35, 3) := by decide +kernel
theorem dX4_add_30 : decode cX4_add 30 = .ok (.bipush 24, 2) := by decide +kernel
theorem dX4_add_32 : decode cX4_add 32 = .ok (.if_icmp .ne 7, 3) := by decide +kernel
theorem dX4_add_35 : decode cX4_add 35 = .ok (.iconst 3, 1) := by decide +kernel
theorem dX4_add_36 : decode cX4_add 36 = .ok (.goto 4, 3) := by decide +kernel
theorem dX4_add_39 : decode cX4_add 39 = .ok (.iconst 0, 1) := by decide +kernel
theorem dX4_add_40 : decode cX4_add 40 = .ok (.invokevirtual 46, 3) := by decide +kernel
theorem dX4_add_43 : decode cX4_add 43 = .ok (.ifCond .ne 5, 3) := by decide +kernel
theorem dX4_add_46 : decode cX4_add 46 = .ok (.iconst 0, 1) := by decide +kernel
theorem dX4_add_47 : decode cX4_add 47 = .ok (.ireturn, 1) := by decide +kernel
theorem dX4_add_48 : decode cX4_add 48 = .ok (.aload_n 0, 1) := by decide +kernel
theorem dX4_add_49 : decode cX4_add 49 = .ok (.getfield 7, 3) := by decide +kernel
theorem dX4_add_52 : decode cX4_add 52 = .ok (.aload_n 0, 1) := by decide +kernel
theorem dX4_add_53 : decode cX4_add 53 = .ok (.getfield 35, 3) := by decide +kernel
theorem dX4_add_56 : decode cX4_add 56 = .ok (.iload_n 1, 1) := by decide +kernel
theorem dX4_add_57 : decode cX4_add 57 = .ok (.iastore, 1) := by decide +kernel
theorem dX4_add_58 : decode cX4_add 58 = .ok (.iconst 0, 1) := by decide +kernel
theorem dX4_add_59 : decode cX4_add 59 = .ok (.istore_n 3, 1) := by decide +kernel
theorem dX4_add_60 : decode cX4_add 60 = .ok (.iload_n 3, 1) := by decide +kernel
theorem dX4_add_61 : decode cX4_add 61 = .ok (.iconst 3, 1) := by decide +kernel
theorem dX4_add_62 : decode cX4_add 62 = .ok (.if_icmp .ge 23, 3) := by decide +kernel
theorem dX4_add_65 : decode cX4_add 65 = .ok (.aload_n 0, 1) := by decide +kernel
theorem dX4_add_66 : decode cX4_add 66 = .ok (.getfield 13, 3) := by decide +kernel
theorem dX4_add_69 : decode cX4_add 69 = .ok (.iconst 3, 1) := by decide +kernel
theorem dX4_add_70 : decode cX4_add 70 = .ok (.aload_n 0, 1) := by decide +kernel
theorem dX4_add_71 : decode cX4_add 71 = .ok (.getfield 35, 3) := by decide +kernel
theorem dX4_add_74 : decode cX4_add 74 = .ok (.imul, 1) := by decide +kernel
theorem dX4_add_75 : decode cX4_add 75 = .ok (.iload_n 3, 1) := by decide +kernel
theorem dX4_add_76 : decode cX4_add 76 = .ok (.iadd, 1) := by decide +kernel
theorem dX4_add_77 : decode cX4_add 77 = .ok (.iload_n 2, 1) := by decide +kernel
theorem dX4_add_78 : decode cX4_add 78 = .ok (.iastore, 1) := by decide +kernel
theorem dX4_add_79 : decode cX4_add 79 = .ok (.iinc 3 1, 3) := by decide +kernel
theorem dX4_add_82 : decode cX4_add 82 = .ok (.goto (-22), 3) := by decide +kernel
theorem dX4_add_85 : decode cX4_add 85 = .ok (.aload_n 0, 1) := by decide +kernel
theorem dX4_add_86 : decode cX4_add 86 = .ok (.dup, 1) := by decide +kernel
theorem dX4_add_87 : decode cX4_add 87 = .ok (.getfield 35, 3) := by decide +kernel
theorem dX4_add_90 : decode cX4_add 90 = .ok (.iconst 1, 1) := by decide +kernel
theorem dX4_add_91 : decode cX4_add 91 = .ok (.iadd, 1) := by decide +kernel
theorem dX4_add_92 : decode cX4_add 92 = .ok (.putfield 35, 3) := by decide +kernel
theorem dX4_add_95 : decode cX4_add 95 = .ok (.aload_n 0, 1) := by decide +kernel
theorem dX4_add_96 : decode cX4_add 96 = .ok (.getfield 35, 3) := by decide +kernel
theorem dX4_add_99 : decode cX4_add 99 = .ok (.iconst 1, 1) := by decide +kernel
theorem dX4_add_100 : decode cX4_add 100 = .ok (.isub, 1) := by decide +kernel
theorem dX4_add_101 : decode cX4_add 101 = .ok (.ireturn, 1) := by decide +kernel
theorem dX4_changes_0 : decode cX4_changes 0 = .ok (.aload_n 0, 1) := by decide +kernel
theorem dX4_changes_1 : decode cX4_changes 1 = .ok (.getfield 25, 3) := by decide +kernel
theorem dX4_changes_4 : decode cX4_changes 4 = .ok (.iload_n 1, 1) := by decide +kernel
theorem dX4_changes_5 : decode cX4_changes 5 = .ok (.iconst 0, 1) := by decide +kernel
theorem dX4_changes_6 : decode cX4_changes 6 = .ok (.iastore, 1) := by decide +kernel
theorem dX4_changes_7 : decode cX4_changes 7 = .ok (.iconst 0, 1) := by decide +kernel
theorem dX4_changes_8 : decode cX4_changes 8 = .ok (.istore_n 2, 1) := by decide +kernel
theorem dX4_changes_9 : decode cX4_changes 9 = .ok (.iload_n 2, 1) := by decide +kernel
theorem dX4_changes_10 : decode cX4_changes 10 = .ok (.aload_n 0, 1) := by decide +kernel
theorem dX4_changes_11 : decode cX4_changes 11 = .ok (.getfield 35, 3) := by decide +kernel
theorem dX4_changes_14 : decode cX4_changes 14 = .ok (.if_icmp .ge 23, 3) := by decide +kernel
theorem dX4_changes_17 : decode cX4_changes 17 = .ok (.aload_n 0, 1) := by decide +kernel
theorem dX4_changes_18 : decode cX4_changes 18 = .ok (.getfield 25, 3) := by decide +kernel
theorem dX4_changes_21 : decode cX4_changes 21 = .ok (.iload_n 2, 1) := by decide +kernel
theorem dX4_changes_22 : decode cX4_changes 22 = .ok (.dup2, 1) := by decide +kernel
theorem dX4_changes_23 : decode cX4_changes 23 = .ok (.iaload, 1) := by decide +kernel
theorem dX4_changes_24 : decode cX4_changes 24 = .ok (.iconst 1, 1) := by decide +kernel
theorem dX4_changes_25 : decode cX4_changes 25 = .ok (.iload_n 1, 1) := by decide +kernel
theorem dX4_changes_26 : decode cX4_changes 26 = .ok (.ishl, 1) := by decide +kernel
theorem dX4_changes_27 : decode cX4_changes 27 = .ok (.iconst (-1), 1) := by decide +kernel
theorem dX4_changes_28 : decode cX4_changes 28 = .ok (.ixor, 1) := by decide +kernel
theorem dX4_changes_29 : decode cX4_changes 29 = .ok (.iand, 1) := by decide +kernel
theorem dX4_changes_30 : decode cX4_changes 30 = .ok (.iastore, 1) := by decide +kernel
theorem dX4_changes_31 : decode cX4_changes 31 = .ok (.iinc 2 1, 3) := by decide +kernel
theorem dX4_changes_34 : decode cX4_changes 34 = .ok (.goto (-25), 3) := by decide +kernel
theorem dX4_changes_37 : decode cX4_changes 37 = .ok (.return_, 1) := by decide +kernel
set_option maxRecDepth 20000 in
theorem ggX4_sets_X4_at : GoodIn wsX4_sets wsX4_at := goodIn_r _ [5] (by decide +kernel) (by decide +kernel)
set_option maxRecDepth 20000 in
theorem gX4_sets_X4_at : GoodIn wsX4_sets (va_wsS RX4 49 yX4_at wsX4_at) := goodIn_app (goodIn_of _ (by decide +kernel)) ggX4_sets_X4_at
set_option maxRecDepth 20000 in
theorem ggX4_sets_X4_changes : GoodIn wsX4_sets wsX4_changes := goodIn_r _ [9, 10, 11, 12, 13, 14, 15, 16, 17, 18, 19, 20] (by decide +kernel) (by decide +kernel)
set_option maxRecDepth 20000 in
theorem gX4_sets_X4_changes : GoodIn wsX4_sets (wsV RX4 53 RX4 yX4_changes wsX4_changes) := goodIn_app (goodIn_of _ (by decide +kernel)) ggX4_sets_X4_changes
theorem dX4_sets_0 : decode cX4_sets 0 = .ok (.iload_n 2, 1) := by decide +kernel
theorem dX4_sets_1 : decode cX4_sets 1 = .ok (.ifCond .ne 24, 3) := by decide +kernel
theorem dX4_sets_4 : decode cX4_sets 4 = .ok (.aload_n 0, 1) := by decide +kernel
theorem dX4_sets_5 : decode cX4_sets 5 = .ok (.getfield 16, 3) := by decide +kernel
theorem dX4_sets_8 : decode cX4_sets 8 = .ok (.iload_n 1, 1) := by decide +kernel
theorem dX4_sets_9 : decode cX4_sets 9 = .ok (.iload_n 2, 1) := by decide +kernel
theorem dX4_sets_10 : decode cX4_sets 10 = .ok (.iload_n 3, 1) := by decide +kernel
theorem dX4_sets_11 : decode cX4_sets 11 = .ok (.invokestatic 49, 3) := by decide +kernel
theorem dX4_sets_14 : decode cX4_sets 14 = .ok (.iaload, 1) := by decide +kernel
theorem dX4_sets_15 : decode cX4_sets 15 = .ok (.iload 4, 2) := by decide +kernel
theorem dX4_sets_17 : decode cX4_sets 17 = .ok (.if_icmp .eq 8, 3) := by decide +kernel
theorem dX4_sets_20 : decode cX4_sets 20 = .ok (.aload_n 0, 1) := by decide +kernel
theorem dX4_sets_21 : decode cX4_sets 21 = .ok (.iload_n 1, 1) := by decide +kernel
theorem dX4_sets_22 : decode cX4_sets 22 = .ok (.invokevirtual 53, 3) := by decide +kernel
theorem dX4_sets_25 : decode cX4_sets 25 = .ok (.aload_n 0, 1) := by decide +kernel
theorem dX4_sets_26 : decode cX4_sets 26 = .ok (.getfield 16, 3) := by decide +kernel
theorem dX4_sets_29 : decode cX4_sets 29 = .ok (.iload_n 1, 1) := by decide +kernel
theorem dX4_sets_30 : decode cX4_sets 30 = .ok (.iload_n 2, 1) := by decide +kernel
theorem dX4_sets_31 : decode cX4_sets 31 = .ok (.iload_n 3, 1) := by decide +kernel
theorem dX4_sets_32 : decode cX4_sets 32 = .ok (.invokestatic 49, 3) := by decide +kernel
theorem dX4_sets_35 : decode cX4_sets 35 = .ok (.iload 4, 2) := by decide +kernel
theorem dX4_sets_37 : decode cX4_sets 37 = .ok (.iastore, 1) := by decide +kernel
theorem dX4_sets_38 : decode cX4_sets 38 = .ok (.return_, 1) := by decide +kernel
set_option maxRecDepth 20000 in
theorem ggX4_names_X4_changes : GoodIn wsX4_names wsX4_changes := goodIn_r _ [6, 7, 8, 9, 10, 11, 12, 13, 14, 15, 16, 17] (by decide +kernel) (by decide +kernel)
set_option maxRecDepth 20000 in
theorem gX4_names_X4_changes : GoodIn wsX4_names (wsV RX4 53 RX4 yX4_changes wsX4_changes) := goodIn_app (goodIn_of _ (by decide +kernel)) ggX4_names_X4_changes
theorem dX4_names_0 : decode cX4_names 0 = .ok (.iload_n 2, 1) := by decide +kernel
theorem dX4_names_1 : decode cX4_names 1 = .ok (.ifCond .ne 22, 3) := by decide +kernel
theorem dX4_names_4 : decode cX4_names 4 = .ok (.aload_n 0, 1) := by decide +kernel
theorem dX4_names_5 : decode cX4_names 5 = .ok (.getfield 13, 3) := by decide +kernel
theorem dX4_names_8 : decode cX4_names 8 = .ok (.iconst 3, 1) := by decide +kernel
theorem dX4_names_9 : decode cX4_names 9 = .ok (.iload_n 1, 1) := by decide +kernel
theorem dX4_names_10 : decode cX4_names 10 = .ok (.imul, 1) := by decide +kernel
theorem dX4_names_11 : decode cX4_names 11 = .ok (.iload_n 2, 1) := by decide +kernel
theorem dX4_names_12 : decode cX4_names 12 = .ok (.iadd, 1) := by decide +kernel
theorem dX4_names_13 : decode cX4_names 13 = .ok (.iaload, 1) := by decide +kernel
theorem dX4_names_14 : decode cX4_names 14 = .ok (.iload_n 3, 1) := by decide +kernel
theorem dX4_names_15 : decode cX4_names 15 = .ok (.if_icmp .eq 8, 3) := by decide +kernel
theorem dX4_names_18 : decode cX4_names 18 = .ok (.aload_n 0, 1) := by decide +kernel
theorem dX4_names_19 : decode cX4_names 19 = .ok (.iload_n 1, 1) := by decide +kernel
theorem dX4_names_20 : decode cX4_names 20 = .ok (.invokevirtual 53, 3) := by decide +kernel
theorem dX4_names_23 : decode cX4_names 23 = .ok (.aload_n 0, 1) := by decide +kernel
theorem dX4_names_24 : decode cX4_names 24 = .ok (.getfield 13, 3) := by decide +kernel
theorem dX4_names_27 : decode cX4_names 27 = .ok (.iconst 3, 1) := by decide +kernel
theorem dX4_names_28 : decode cX4_names 28 = .ok (.iload_n 1, 1) := by decide +kernel
theorem dX4_names_29 : decode cX4_names 29 = .ok (.imul, 1) := by decide +kernel
theorem dX4_names_30 : decode cX4_names 30 = .ok (.iload_n 2, 1) := by decide +kernel
theorem dX4_names_31 : decode cX4_names 31 = .ok (.iadd, 1) := by decide +kernel
theorem dX4_names_32 : decode cX4_names 32 = .ok (.iload_n 3, 1) := by decide +kernel
theorem dX4_names_33 : decode cX4_names 33 = .ok (.iastore, 1) := by decide +kernel
theorem dX4_names_34 : decode cX4_names 34 = .ok (.return_, 1) := by decide +kernel
set_option maxRecDepth 20000 in
theorem ggX4_turn_X4_isIn : GoodIn wsX4_turn wsX4_isIn := goodIn_r _ [5] (by decide +kernel) (by decide +kernel)
set_option maxRecDepth 20000 in
theorem gX4_turn_X4_isIn : GoodIn wsX4_turn (va_wsS RX4 38 yX4_isIn wsX4_isIn) := goodIn_app (goodIn_of _ (by decide +kernel)) ggX4_turn_X4_isIn
set_option maxRecDepth 20000 in
theorem ggX4_turn_X4_isKind : GoodIn wsX4_turn wsX4_isKind := goodIn_r _ [8, 2, 3, 4, 5] (by decide +kernel) (by decide +kernel)
set_option maxRecDepth 20000 in
theorem gX4_turn_X4_isKind : GoodIn wsX4_turn (va_wsS RX4 57 yX4_isKind wsX4_isKind) := goodIn_app (goodIn_of _ (by decide +kernel)) ggX4_turn_X4_isKind
set_option maxRecDepth 20000 in
theorem ggX4_turn_X4_isCard : GoodIn wsX4_turn wsX4_isCard := goodIn_r _ [12, 13, 2, 3, 4, 5, 34, 35, 36, 37, 38, 39, 40, 41, 42] (by decide +kernel) (by decide +kernel)
set_option maxRecDepth 20000 in
theorem gX4_turn_X4_isCard : GoodIn wsX4_turn (wsV RX4 60 RX4 yX4_isCard wsX4_isCard) := goodIn_app (goodIn_of _ (by decide +kernel)) ggX4_turn_X4_isCard
set_option maxRecDepth 20000 in
theorem ggX4_turn_X4_isFine : GoodIn wsX4_turn wsX4_isFine := goodIn_r _ [17, 18, 34, 35, 36, 37, 38, 39, 40, 41, 42] (by decide +kernel) (by decide +kernel)
set_option maxRecDepth 20000 in
theorem gX4_turn_X4_isFine : GoodIn wsX4_turn (wsV RX4 46 RX4 yX4_isFine wsX4_isFine) := goodIn_app (goodIn_of _ (by decide +kernel)) ggX4_turn_X4_isFine
set_option maxRecDepth 20000 in
theorem ggX4_turn_X4_at : GoodIn wsX4_turn wsX4_at := goodIn_r _ [21] (by decide +kernel) (by decide +kernel)
set_option maxRecDepth 20000 in
theorem gX4_turn_X4_at : GoodIn wsX4_turn (va_wsS RX4 49 yX4_at wsX4_at) := goodIn_app (goodIn_of _ (by decide +kernel)) ggX4_turn_X4_at
set_option maxRecDepth 20000 in
theorem ggX4_turn_X4_sets : GoodIn wsX4_turn wsX4_sets := goodIn_r _ [25, 1, 19, 20, 4, 21, 26, 27, 28, 29, 30, 13, 34, 35, 36, 37, 38, 39, 40, 41, 42] (by decide +kernel) (by decide +kernel)
set_option maxRecDepth 20000 in
theorem gX4_turn_X4_sets : GoodIn wsX4_turn (wsV RX4 63 RX4 yX4_sets wsX4_sets) := goodIn_app (goodIn_of _ (by decide +kernel)) ggX4_turn_X4_sets
set_option maxRecDepth 20000 in
theorem ggX4_turn_X4_has : GoodIn wsX4_turn wsX4_has := goodIn_r _ [33] (by decide +kernel) (by decide +kernel)
set_option maxRecDepth 20000 in
theorem gX4_turn_X4_has : GoodIn wsX4_turn (va_wsS RX4 67 yX4_has wsX4_has) := goodIn_app (goodIn_of _ (by decide +kernel)) ggX4_turn_X4_has
theorem dX4_turn_0 : decode cX4_turn 0 = .ok (.iload_n 2, 1) := by decide +kernel
theorem dX4_turn_1 : decode cX4_turn 1 = .ok (.iconst 0, 1) := by decide +kernel
theorem dX4_turn_2 : decode cX4_turn 2 = .ok (.iconst 1, 1) := by decide +kernel
theorem dX4_turn_3 : decode cX4_turn 3 = .ok (.invokestatic 38, 3) := by decide +kernel
theorem dX4_turn_6 : decode cX4_turn 6 = .ok (.ifCond .eq 25, 3) := by decide +kernel
theorem dX4_turn_9 : decode cX4_turn 9 = .ok (.iload_n 3, 1) := by decide +kernel
theorem dX4_turn_10 : decode cX4_turn 10 = .ok (.invokestatic 57, 3) := by decide +kernel
theorem dX4_turn_13 : decode cX4_turn 13 = .ok (.ifCond .eq 18, 3) := by decide +kernel
theorem dX4_turn_16 : decode cX4_turn 16 = .ok (.iload 4, 2) := by decide +kernel
theorem dX4_turn_18 : decode cX4_turn 18 = .ok (.iconst 0, 1) := by decide +kernel
theorem dX4_turn_19 : decode cX4_turn 19 = .ok (.bipush 29, 2) := by decide +kernel
theorem dX4_turn_21 : decode cX4_turn 21 = .ok (.invokestatic 38, 3) := by decide +kernel
theorem dX4_turn_24 : decode cX4_turn 24 = .ok (.ifCond .eq 7, 3) := by decide +kernel
theorem dX4_turn_27 : decode cX4_turn 27 = .ok (.iconst 1, 1) := by decide +kernel
theorem dX4_turn_28 : decode cX4_turn 28 = .ok (.goto 4, 3) := by decide +kernel
theorem dX4_turn_31 : decode cX4_turn 31 = .ok (.iconst 0, 1) := by decide +kernel
theorem dX4_turn_32 : decode cX4_turn 32 = .ok (.istore 5, 2) := by decide +kernel
theorem dX4_turn_34 : decode cX4_turn 34 = .ok (.aload_n 0, 1) := by decide +kernel
theorem dX4_turn_35 : decode cX4_turn 35 = .ok (.aload_n 0, 1) := by decide +kernel
theorem dX4_turn_36 : decode cX4_turn 36 = .ok (.iload_n 1, 1) := by decide +kernel
theorem dX4_turn_37 : decode cX4_turn 37 = .ok (.invokevirtual 60, 3) := by decide +kernel
theorem dX4_turn_40 : decode cX4_turn 40 = .ok (.ifCond .ne 7, 3) := by decide +kernel
theorem dX4_turn_43 : decode cX4_turn 43 = .ok (.iconst 1, 1) := by decide +kernel
theorem dX4_turn_44 : decode cX4_turn 44 = .ok (.goto 13, 3) := by decide +kernel
theorem dX4_turn_47 : decode cX4_turn 47 = .ok (.iload 5, 2) := by decide +kernel
theorem dX4_turn_49 : decode cX4_turn 49 = .ok (.ifCond .ne 7, 3) := by decide +kernel
theorem dX4_turn_52 : decode cX4_turn 52 = .ok (.iconst 2, 1) := by decide +kernel
theorem dX4_turn_53 : decode cX4_turn 53 = .ok (.goto 4, 3) := by decide +kernel
theorem dX4_turn_56 : decode cX4_turn 56 = .ok (.iconst 0, 1) := by decide +kernel
theorem dX4_turn_57 : decode cX4_turn 57 = .ok (.invokevirtual 46, 3) := by decide +kernel
theorem dX4_turn_60 : decode cX4_turn 60 = .ok (.ifCond .ne 5, 3) := by decide +kernel
theorem dX4_turn_63 : decode cX4_turn 63 = .ok (.iconst 0, 1) := by decide +kernel
theorem dX4_turn_64 : decode cX4_turn 64 = .ok (.ireturn, 1) := by decide +kernel
theorem dX4_turn_65 : decode cX4_turn 65 = .ok (.aload_n 0, 1) := by decide +kernel
theorem dX4_turn_66 : decode cX4_turn 66 = .ok (.iload_n 1, 1) := by decide +kernel
theorem dX4_turn_67 : decode cX4_turn 67 = .ok (.iload_n 2, 1) := by decide +kernel
theorem dX4_turn_68 : decode cX4_turn 68 = .ok (.iload_n 3, 1) := by decide +kernel
theorem dX4_turn_69 : decode cX4_turn 69 = .ok (.aload_n 0, 1) := by decide +kernel
theorem dX4_turn_70 : decode cX4_turn 70 = .ok (.getfield 16, 3) := by decide +kernel
theorem dX4_turn_73 : decode cX4_turn 73 = .ok (.iload_n 1, 1) := by decide +kernel
theorem dX4_turn_74 : decode cX4_turn 74 = .ok (.iload_n 2, 1) := by decide +kernel
theorem dX4_turn_75 : decode cX4_turn 75 = .ok (.iload_n 3, 1) := by decide +kernel
theorem dX4_turn_76 : decode cX4_turn 76 = .ok (.invokestatic 49, 3) := by decide +kernel
theorem dX4_turn_79 : decode cX4_turn 79 = .ok (.iaload, 1) := by decide +kernel
theorem dX4_turn_80 : decode cX4_turn 80 = .ok (.iconst 1, 1) := by decide +kernel
theorem dX4_turn_81 : decode cX4_turn 81 = .ok (.iload 4, 2) := by decide +kernel
theorem dX4_turn_83 : decode cX4_turn 83 = .ok (.ishl, 1) := by decide +kernel
theorem dX4_turn_84 : decode cX4_turn 84 = .ok (.ixor, 1) := by decide +kernel
theorem dX4_turn_85 : decode cX4_turn 85 = .ok (.invokevirtual 63, 3) := by decide +kernel
theorem dX4_turn_88 : decode cX4_turn 88 = .ok (.aload_n 0, 1) := by decide +kernel
theorem dX4_turn_89 : decode cX4_turn 89 = .ok (.getfield 16, 3) := by decide +kernel
theorem dX4_turn_92 : decode cX4_turn 92 = .ok (.iload_n 1, 1) := by decide +kernel
theorem dX4_turn_93 : decode cX4_turn 93 = .ok (.iload_n 2, 1) := by decide +kernel
theorem dX4_turn_94 : decode cX4_turn 94 = .ok (.iload_n 3, 1) := by decide +kernel
theorem dX4_turn_95 : decode cX4_turn 95 = .ok (.invokestatic 49, 3) := by decide +kernel
theorem dX4_turn_98 : decode cX4_turn 98 = .ok (.iaload, 1) := by decide +kernel
theorem dX4_turn_99 : decode cX4_turn 99 = .ok (.iload 4, 2) := by decide +kernel
theorem dX4_turn_101 : decode cX4_turn 101 = .ok (.invokestatic 67, 3) := by decide +kernel
theorem dX4_turn_104 : decode cX4_turn 104 = .ok (.ireturn, 1) := by decide +kernel
set_option maxRecDepth 20000 in
theorem ggX4_rename_X4_isIn : GoodIn wsX4_rename wsX4_isIn := goodIn_r _ [5] (by decide +kernel) (by decide +kernel)
set_option maxRecDepth 20000 in
theorem gX4_rename_X4_isIn : GoodIn wsX4_rename (va_wsS RX4 38 yX4_isIn wsX4_isIn) := goodIn_app (goodIn_of _ (by decide +kernel)) ggX4_rename_X4_isIn
set_option maxRecDepth 20000 in
theorem ggX4_rename_X4_isCard : GoodIn wsX4_rename wsX4_isCard := goodIn_r _ [9, 10, 2, 3, 4, 5, 25, 26, 27, 28, 29, 30, 31, 32, 33] (by decide +kernel) (by decide +kernel)
set_option maxRecDepth 20000 in
theorem gX4_rename_X4_isCard : GoodIn wsX4_rename (wsV RX4 60 RX4 yX4_isCard wsX4_isCard) := goodIn_app (goodIn_of _ (by decide +kernel)) ggX4_rename_X4_isCard
set_option maxRecDepth 20000 in
theorem ggX4_rename_X4_isFine : GoodIn wsX4_rename wsX4_isFine := goodIn_r _ [14, 15, 25, 26, 27, 28, 29, 30, 31, 32, 33] (by decide +kernel) (by decide +kernel)
set_option maxRecDepth 20000 in
theorem gX4_rename_X4_isFine : GoodIn wsX4_rename (wsV RX4 46 RX4 yX4_isFine wsX4_isFine) := goodIn_app (goodIn_of _ (by decide +kernel)) ggX4_rename_X4_isFine
set_option maxRecDepth 20000 in
theorem ggX4_rename_X4_names : GoodIn wsX4_rename wsX4_names := goodIn_r _ [19, 1, 20, 21, 22, 4, 23, 24, 10, 25, 26, 27, 28, 29, 30, 31, 32, 33] (by decide +kernel) (by decide +kernel)
set_option maxRecDepth 20000 in
theorem gX4_rename_X4_names : GoodIn wsX4_rename (wsV RX4 71 RX4 yX4_names wsX4_names) := goodIn_app (goodIn_of _ (by decide +kernel)) ggX4_rename_X4_names
theorem dX4_rename_0 : decode cX4_rename 0 = .ok (.iload_n 2, 1) := by decide +kernel
theorem dX4_rename_1 : decode cX4_rename 1 = .ok (.iconst 0, 1) := by decide +kernel
theorem dX4_rename_2 : decode cX4_rename 2 = .ok (.iconst 1, 1) := by decide +kernel
theorem dX4_rename_3 : decode cX4_rename 3 = .ok (.invokestatic 38, 3) := by decide +kernel
theorem dX4_rename_6 : decode cX4_rename 6 = .ok (.ifCond .eq 17, 3) := by decide +kernel
theorem dX4_rename_9 : decode cX4_rename 9 = .ok (.iload_n 3, 1) := by decide +kernel
theorem dX4_rename_10 : decode cX4_rename 10 = .ok (.iconst 0, 1) := by decide +kernel
theorem dX4_rename_11 : decode cX4_rename 11 = .ok (.bipush 31, 2) := by decide +kernel
theorem dX4_rename_13 : decode cX4_rename 13 = .ok (.invokestatic 38, 3) := by decide +kernel
theorem dX4_rename_16 : decode cX4_rename 16 = .ok (.ifCond .eq 7, 3) := by decide +kernel
theorem dX4_rename_19 : decode cX4_rename 19 = .ok (.iconst 1, 1) := by decide +kernel
theorem dX4_rename_20 : decode cX4_rename 20 = .ok (.goto 4, 3) := by decide +kernel
theorem dX4_rename_23 : decode cX4_rename 23 = .ok (.iconst 0, 1) := by decide +kernel
theorem dX4_rename_24 : decode cX4_rename 24 = .ok (.istore 4, 2) := by decide +kernel
theorem dX4_rename_26 : decode cX4_rename 26 = .ok (.aload_n 0, 1) := by decide +kernel
theorem dX4_rename_27 : decode cX4_rename 27 = .ok (.aload_n 0, 1) := by decide +kernel
theorem dX4_rename_28 : decode cX4_rename 28 = .ok (.iload_n 1, 1) := by decide +kernel
theorem dX4_rename_29 : decode cX4_rename 29 = .ok (.invokevirtual 60, 3) := by decide +kernel
theorem dX4_rename_32 : decode cX4_rename 32 = .ok (.ifCond .ne 7, 3) := by decide +kernel
theorem dX4_rename_35 : decode cX4_rename 35 = .ok (.iconst 1, 1) := by decide +kernel
theorem dX4_rename_36 : decode cX4_rename 36 = .ok (.goto 13, 3) := by decide +kernel
theorem dX4_rename_39 : decode cX4_rename 39 = .ok (.iload 4, 2) := by decide +kernel
theorem dX4_rename_41 : decode cX4_rename 41 = .ok (.ifCond .ne 7, 3) := by decide +kernel
theorem dX4_rename_44 : decode cX4_rename 44 = .ok (.iconst 2, 1) := by decide +kernel
theorem dX4_rename_45 : decode cX4_rename 45 = .ok (.goto 4, 3) := by decide +kernel
theorem dX4_rename_48 : decode cX4_rename 48 = .ok (.iconst 0, 1) := by decide +kernel
theorem dX4_rename_49 : decode cX4_rename 49 = .ok (.invokevirtual 46, 3) := by decide +kernel
theorem dX4_rename_52 : decode cX4_rename 52 = .ok (.ifCond .ne 5, 3) := by decide +kernel
theorem dX4_rename_55 : decode cX4_rename 55 = .ok (.iconst 0, 1) := by decide +kernel
theorem dX4_rename_56 : decode cX4_rename 56 = .ok (.ireturn, 1) := by decide +kernel
theorem dX4_rename_57 : decode cX4_rename 57 = .ok (.aload_n 0, 1) := by decide +kernel
theorem dX4_rename_58 : decode cX4_rename 58 = .ok (.getfield 13, 3) := by decide +kernel
theorem dX4_rename_61 : decode cX4_rename 61 = .ok (.iconst 3, 1) := by decide +kernel
theorem dX4_rename_62 : decode cX4_rename 62 = .ok (.iload_n 1, 1) := by decide +kernel
theorem dX4_rename_63 : decode cX4_rename 63 = .ok (.imul, 1) := by decide +kernel
theorem dX4_rename_64 : decode cX4_rename 64 = .ok (.iload_n 2, 1) := by decide +kernel
theorem dX4_rename_65 : decode cX4_rename 65 = .ok (.iadd, 1) := by decide +kernel
theorem dX4_rename_66 : decode cX4_rename 66 = .ok (.iaload, 1) := by decide +kernel
theorem dX4_rename_67 : decode cX4_rename 67 = .ok (.istore 5, 2) := by decide +kernel
theorem dX4_rename_69 : decode cX4_rename 69 = .ok (.aload_n 0, 1) := by decide +kernel
theorem dX4_rename_70 : decode cX4_rename 70 = .ok (.iload_n 1, 1) := by decide +kernel
theorem dX4_rename_71 : decode cX4_rename 71 = .ok (.iload_n 2, 1) := by decide +kernel
theorem dX4_rename_72 : decode cX4_rename 72 = .ok (.iload_n 3, 1) := by decide +kernel
theorem dX4_rename_73 : decode cX4_rename 73 = .ok (.invokevirtual 71, 3) := by decide +kernel
theorem dX4_rename_76 : decode cX4_rename 76 = .ok (.iload 5, 2) := by decide +kernel
theorem dX4_rename_78 : decode cX4_rename 78 = .ok (.ireturn, 1) := by decide +kernel
set_option maxRecDepth 20000 in
theorem ggX4_mergedOf_X4_at : GoodIn wsX4_mergedOf wsX4_at := goodIn_r _ [5] (by decide +kernel) (by decide +kernel)
set_option maxRecDepth 20000 in
theorem gX4_mergedOf_X4_at : GoodIn wsX4_mergedOf (va_wsS RX4 49 yX4_at wsX4_at) := goodIn_app (goodIn_of _ (by decide +kernel)) ggX4_mergedOf_X4_at
theorem dX4_mergedOf_0 : decode cX4_mergedOf 0 = .ok (.aload_n 0, 1) := by decide +kernel
theorem dX4_mergedOf_1 : decode cX4_mergedOf 1 = .ok (.getfield 16, 3) := by decide +kernel
theorem dX4_mergedOf_4 : decode cX4_mergedOf 4 = .ok (.iload_n 1, 1) := by decide +kernel
theorem dX4_mergedOf_5 : decode cX4_mergedOf 5 = .ok (.iconst 0, 1) := by decide +kernel
theorem dX4_mergedOf_6 : decode cX4_mergedOf 6 = .ok (.iload_n 2, 1) := by decide +kernel
theorem dX4_mergedOf_7 : decode cX4_mergedOf 7 = .ok (.invokestatic 49, 3) := by decide +kernel
theorem dX4_mergedOf_10 : decode cX4_mergedOf 10 = .ok (.iaload, 1) := by decide +kernel
theorem dX4_mergedOf_11 : decode cX4_mergedOf 11 = .ok (.istore_n 3, 1) := by decide +kernel
theorem dX4_mergedOf_12 : decode cX4_mergedOf 12 = .ok (.aload_n 0, 1) := by decide +kernel
theorem dX4_mergedOf_13 : decode cX4_mergedOf 13 = .ok (.getfield 16, 3) := by decide +kernel
theorem dX4_mergedOf_16 : decode cX4_mergedOf 16 = .ok (.iload_n 1, 1) := by decide +kernel
theorem dX4_mergedOf_17 : decode cX4_mergedOf 17 = .ok (.iconst 1, 1) := by decide +kernel
theorem dX4_mergedOf_18 : decode cX4_mergedOf 18 = .ok (.iload_n 2, 1) := by decide +kernel
theorem dX4_mergedOf_19 : decode cX4_mergedOf 19 = .ok (.invokestatic 49, 3) := by decide +kernel
theorem dX4_mergedOf_22 : decode cX4_mergedOf 22 = .ok (.iaload, 1) := by decide +kernel
theorem dX4_mergedOf_23 : decode cX4_mergedOf 23 = .ok (.istore 4, 2) := by decide +kernel
theorem dX4_mergedOf_25 : decode cX4_mergedOf 25 = .ok (.iload_n 3, 1) := by decide +kernel
theorem dX4_mergedOf_26 : decode cX4_mergedOf 26 = .ok (.iload 4, 2) := by decide +kernel
theorem dX4_mergedOf_28 : decode cX4_mergedOf 28 = .ok (.iand, 1) := by decide +kernel
theorem dX4_mergedOf_29 : decode cX4_mergedOf 29 = .ok (.iload_n 3, 1) := by decide +kernel
theorem dX4_mergedOf_30 : decode cX4_mergedOf 30 = .ok (.iload 4, 2) := by decide +kernel
theorem dX4_mergedOf_32 : decode cX4_mergedOf 32 = .ok (.ixor, 1) := by decide +kernel
theorem dX4_mergedOf_33 : decode cX4_mergedOf 33 = .ok (.aload_n 0, 1) := by decide +kernel
theorem dX4_mergedOf_34 : decode cX4_mergedOf 34 = .ok (.getfield 16, 3) := by decide +kernel
theorem dX4_mergedOf_37 : decode cX4_mergedOf 37 = .ok (.iload_n 1, 1) := by decide +kernel
theorem dX4_mergedOf_38 : decode cX4_mergedOf 38 = .ok (.iconst 2, 1) := by decide +kernel
theorem dX4_mergedOf_39 : decode cX4_mergedOf 39 = .ok (.iload_n 2, 1) := by decide +kernel
theorem dX4_mergedOf_40 : decode cX4_mergedOf 40 = .ok (.invokestatic 49, 3) := by decide +kernel
theorem dX4_mergedOf_43 : decode cX4_mergedOf 43 = .ok (.iaload, 1) := by decide +kernel
theorem dX4_mergedOf_44 : decode cX4_mergedOf 44 = .ok (.iconst (-1), 1) := by decide +kernel
theorem dX4_mergedOf_45 : decode cX4_mergedOf 45 = .ok (.ixor, 1) := by decide +kernel
theorem dX4_mergedOf_46 : decode cX4_mergedOf 46 = .ok (.iand, 1) := by decide +kernel
theorem dX4_mergedOf_47 : decode cX4_mergedOf 47 = .ok (.ior, 1) := by decide +kernel
theorem dX4_mergedOf_48 : decode cX4_mergedOf 48 = .ok (.ireturn, 1) := by decide +kernel
theorem dX4_mergedName_0 : decode cX4_mergedName 0 = .ok (.aload_n 0, 1) := by decide +kernel
theorem dX4_mergedName_1 : decode cX4_mergedName 1 = .ok (.getfield 13, 3) := by decide +kernel
theorem dX4_mergedName_4 : decode cX4_mergedName 4 = .ok (.iconst 3, 1) := by decide +kernel
theorem dX4_mergedName_5 : decode cX4_mergedName 5 = .ok (.iload_n 1, 1) := by decide +kernel
theorem dX4_mergedName_6 : decode cX4_mergedName 6 = .ok (.imul, 1) := by decide +kernel
theorem dX4_mergedName_7 : decode cX4_mergedName 7 = .ok (.iconst 0, 1) := by decide +kernel
theorem dX4_mergedName_8 : decode cX4_mergedName 8 = .ok (.iadd, 1) := by decide +kernel
theorem dX4_mergedName_9 : decode cX4_mergedName 9 = .ok (.iaload, 1) := by decide +kernel
theorem dX4_mergedName_10 : decode cX4_mergedName 10 = .ok (.istore_n 2, 1) := by decide +kernel
theorem dX4_mergedName_11 : decode cX4_mergedName 11 = .ok (.iload_n 2, 1) := by decide +kernel
theorem dX4_mergedName_12 : decode cX4_mergedName 12 = .ok (.aload_n 0, 1) := by decide +kernel
theorem dX4_mergedName_13 : decode cX4_mergedName 13 = .ok (.getfield 13, 3) := by decide +kernel
theorem dX4_mergedName_16 : decode cX4_mergedName 16 = .ok (.iconst 3, 1) := by decide +kernel
theorem dX4_mergedName_17 : decode cX4_mergedName 17 = .ok (.iload_n 1, 1) := by decide +kernel
theorem dX4_mergedName_18 : decode cX4_mergedName 18 = .ok (.imul, 1) := by decide +kernel
theorem dX4_mergedName_19 : decode cX4_mergedName 19 = .ok (.iconst 2, 1) := by decide +kernel
theorem dX4_mergedName_20 : decode cX4_mergedName 20 = .ok (.iadd, 1) := by decide +kernel
theorem dX4_mergedName_21 : decode cX4_mergedName 21 = .ok (.iaload, 1) := by decide +kernel
theorem dX4_mergedName_22 : decode cX4_mergedName 22 = .ok (.if_icmp .ne 16, 3) := by decide +kernel
theorem dX4_mergedName_25 : decode cX4_mergedName 25 = .ok (.aload_n 0, 1) := by decide +kernel
theorem dX4_mergedName_26 : decode cX4_mergedName 26 = .ok (.getfield 13, 3) := by decide +kernel
theorem dX4_mergedName_29 : decode cX4_mergedName 29 = .ok (.iconst 3, 1) := by decide +kernel
theorem dX4_mergedName_30 : decode cX4_mergedName 30 = .ok (.iload_n 1, 1) := by decide +kernel
theorem dX4_mergedName_31 : decode cX4_mergedName 31 = .ok (.imul, 1) := by decide +kernel
theorem dX4_mergedName_32 : decode cX4_mergedName 32 = .ok (.iconst 1, 1) := by decide +kernel
theorem dX4_mergedName_33 : decode cX4_mergedName 33 = .ok (.iadd, 1) := by decide +kernel
theorem dX4_mergedName_34 : decode cX4_mergedName 34 = .ok (.iaload, 1) := by decide +kernel
theorem dX4_mergedName_35 : decode cX4_mergedName 35 = .ok (.goto 4, 3) := by decide +kernel
theorem dX4_mergedName_38 : decode cX4_mergedName 38 = .ok (.iload_n 2, 1) := by decide +kernel
theorem dX4_mergedName_39 : decode cX4_mergedName 39 = .ok (.ireturn, 1) := by decide +kernel
theorem dX4_clashes_0 : decode cX4_clashes 0 = .ok (.aload_n 0, 1) := by decide +kernel
theorem dX4_clashes_1 : decode cX4_clashes 1 = .ok (.getfield 13, 3) := by decide +kernel
theorem dX4_clashes_4 : decode cX4_clashes 4 = .ok (.iconst 3, 1) := by decide +kernel
theorem dX4_clashes_5 : decode cX4_clashes 5 = .ok (.iload_n 1, 1) := by decide +kernel
theorem dX4_clashes_6 : decode cX4_clashes 6 = .ok (.imul, 1) := by decide +kernel
theorem dX4_clashes_7 : decode cX4_clashes 7 = .ok (.iconst 0, 1) := by decide +kernel
theorem dX4_clashes_8 : decode cX4_clashes 8 = .ok (.iadd, 1) := by decide +kernel
theorem dX4_clashes_9 : decode cX4_clashes 9 = .ok (.iaload, 1) := by decide +kernel
theorem dX4_clashes_10 : decode cX4_clashes 10 = .ok (.istore_n 2, 1) := by decide +kernel
theorem dX4_clashes_11 : decode cX4_clashes 11 = .ok (.aload_n 0, 1) := by decide +kernel
theorem dX4_clashes_12 : decode cX4_clashes 12 = .ok (.getfield 13, 3) := by decide +kernel
theorem dX4_clashes_15 : decode cX4_clashes 15 = .ok (.iconst 3, 1) := by decide +kernel
theorem dX4_clashes_16 : decode cX4_clashes 16 = .ok (.iload_n 1, 1) := by decide +kernel
theorem dX4_clashes_17 : decode cX4_clashes 17 = .ok (.imul, 1) := by decide +kernel
theorem dX4_clashes_18 : decode cX4_clashes 18 = .ok (.iconst 1, 1) := by decide +kernel
theorem dX4_clashes_19 : decode cX4_clashes 19 = .ok (.iadd, 1) := by decide +kernel
theorem dX4_clashes_20 : decode cX4_clashes 20 = .ok (.iaload, 1) := by decide +kernel
theorem dX4_clashes_21 : decode cX4_clashes 21 = .ok (.istore_n 3, 1) := by decide +kernel
theorem dX4_clashes_22 : decode cX4_clashes 22 = .ok (.aload_n 0, 1) := by decide +kernel
theorem dX4_clashes_23 : decode cX4_clashes 23 = .ok (.getfield 13, 3) := by decide +kernel
theorem dX4_clashes_26 : decode cX4_clashes 26 = .ok (.iconst 3, 1) := by decide +kernel
theorem dX4_clashes_27 : decode cX4_clashes 27 = .ok (.iload_n 1, 1) := by decide +kernel
theorem dX4_clashes_28 : decode cX4_clashes 28 = .ok (.imul, 1) := by decide +kernel
theorem dX4_clashes_29 : decode cX4_clashes 29 = .ok (.iconst 2, 1) := by decide +kernel
theorem dX4_clashes_30 : decode cX4_clashes 30 = .ok (.iadd, 1) := by decide +kernel
theorem dX4_clashes_31 : decode cX4_clashes 31 = .ok (.iaload, 1) := by decide +kernel
theorem dX4_clashes_32 : decode cX4_clashes 32 = .ok (.istore 4, 2) := by decide +kernel
theorem dX4_clashes_34 : decode cX4_clashes 34 = .ok (.iload_n 2, 1) := by decide +kernel
theorem dX4_clashes_35 : decode cX4_clashes 35 = .ok (.iload_n 3, 1) := by decide +kernel
theorem dX4_clashes_36 : decode cX4_clashes 36 = .ok (.if_icmp .eq 19, 3) := by decide +kernel
theorem dX4_clashes_39 : decode cX4_clashes 39 = .ok (.iload_n 2, 1) := by decide +kernel
theorem dX4_clashes_40 : decode cX4_clashes 40 = .ok (.iload 4, 2) := by decide +kernel
theorem dX4_clashes_42 : decode cX4_clashes 42 = .ok (.if_icmp .eq 13, 3) := by decide +kernel
theorem dX4_clashes_45 : decode cX4_clashes 45 = .ok (.iload_n 3, 1) := by decide +kernel
theorem dX4_clashes_46 : decode cX4_clashes 46 = .ok (.iload 4, 2) := by decide +kernel
theorem dX4_clashes_48 : decode cX4_clashes 48 = .ok (.if_icmp .eq 7, 3) := by decide +kernel
theorem dX4_clashes_51 : decode cX4_clashes 51 = .ok (.iconst 1, 1) := by decide +kernel
theorem dX4_clashes_52 : decode cX4_clashes 52 = .ok (.goto 4, 3) := by decide +kernel
theorem dX4_clashes_55 : decode cX4_clashes 55 = .ok (.iconst 0, 1) := by decide +kernel
theorem dX4_clashes_56 : decode cX4_clashes 56 = .ok (.ireturn, 1) := by decide +kernel
set_option maxRecDepth 20000 in
theorem ggX4_sync_X4_isBook : GoodIn wsX4_sync wsX4_isBook := goodIn_r _ [6, 7, 8, 5, 9] (by decide +kernel) (by decide +kernel)
set_option maxRecDepth 20000 in
theorem gX4_sync_X4_isBook : GoodIn wsX4_sync (va_wsS RX4 42 yX4_isBook wsX4_isBook) := goodIn_app (goodIn_of _ (by decide +kernel)) ggX4_sync_X4_isBook
set_option maxRecDepth 20000 in
theorem ggX4_sync_X4_isFine : GoodIn wsX4_sync wsX4_isFine := goodIn_r _ [13, 14, 45, 46, 47, 48, 49, 50, 51, 52, 53] (by decide +kernel) (by decide +kernel)
set_option maxRecDepth 20000 in
theorem gX4_sync_X4_isFine : GoodIn wsX4_sync (wsV RX4 46 RX4 yX4_isFine wsX4_isFine) := goodIn_app (goodIn_of _ (by decide +kernel)) ggX4_sync_X4_isFine
set_option maxRecDepth 20000 in
theorem ggX4_sync_X4_clashes : GoodIn wsX4_sync wsX4_clashes := goodIn_r _ [18, 19, 45, 46, 47, 48, 49, 50, 51, 52, 53] (by decide +kernel) (by decide +kernel)
set_option maxRecDepth 20000 in
theorem gX4_sync_X4_clashes : GoodIn wsX4_sync (wsV RX4 75 RX4 yX4_clashes wsX4_clashes) := goodIn_app (goodIn_of _ (by decide +kernel)) ggX4_sync_X4_clashes
set_option maxRecDepth 20000 in
theorem ggX4_sync_X4_mergedOf : GoodIn wsX4_sync wsX4_mergedOf := goodIn_r _ [23, 24, 25, 26, 5, 27, 45, 46, 47, 48, 49, 50, 51, 52, 53] (by decide +kernel) (by decide +kernel)
set_option maxRecDepth 20000 in
theorem gX4_sync_X4_mergedOf : GoodIn wsX4_sync (wsV RX4 78 RX4 yX4_mergedOf wsX4_mergedOf) := goodIn_app (goodIn_of _ (by decide +kernel)) ggX4_sync_X4_mergedOf
set_option maxRecDepth 20000 in
theorem ggX4_sync_X4_mergedName : GoodIn wsX4_sync wsX4_mergedName := goodIn_r _ [31, 19, 45, 46, 47, 48, 49, 50, 51, 52, 53] (by decide +kernel) (by decide +kernel)
set_option maxRecDepth 20000 in
theorem gX4_sync_X4_mergedName : GoodIn wsX4_sync (wsV RX4 82 RX4 yX4_mergedName wsX4_mergedName) := goodIn_app (goodIn_of _ (by decide +kernel)) ggX4_sync_X4_mergedName
set_option maxRecDepth 20000 in
theorem ggX4_sync_X4_sets : GoodIn wsX4_sync wsX4_sets := goodIn_r _ [35, 24, 25, 26, 5, 27, 36, 37, 38, 39, 40, 1, 45, 46, 47, 48, 49, 50, 51, 52, 53] (by decide +kernel) (by decide +kernel)
set_option maxRecDepth 20000 in
theorem gX4_sync_X4_sets : GoodIn wsX4_sync (wsV RX4 63 RX4 yX4_sets wsX4_sets) := goodIn_app (goodIn_of _ (by decide +kernel)) ggX4_sync_X4_sets
set_option maxRecDepth 20000 in
theorem ggX4_sync_X4_names : GoodIn wsX4_sync wsX4_names := goodIn_r _ [44, 19, 36, 37, 38, 5, 39, 40, 1, 45, 46, 47, 48, 49, 50, 51, 52, 53] (by decide +kernel) (by decide +kernel)
set_option maxRecDepth 20000 in
theorem gX4_sync_X4_names : GoodIn wsX4_sync (wsV RX4 71 RX4 yX4_names wsX4_names) := goodIn_app (goodIn_of _ (by decide +kernel)) ggX4_sync_X4_names
theorem dX4_sync_0 : decode cX4_sync 0 = .ok (.aload_n 0, 1) := by decide +kernel
theorem dX4_sync_1 : decode cX4_sync 1 = .ok (.iload_n 1, 1) := by decide +kernel
theorem dX4_sync_2 : decode cX4_sync 2 = .ok (.invokestatic 42, 3) := by decide +kernel
theorem dX4_sync_5 : decode cX4_sync 5 = .ok (.ifCond .eq 7, 3) := by decide +kernel
theorem dX4_sync_8 : decode cX4_sync 8 = .ok (.iconst 0, 1) := by decide +kernel
theorem dX4_sync_9 : decode cX4_sync 9 = .ok (.goto 4, 3) := by decide +kernel
theorem dX4_sync_12 : decode cX4_sync 12 = .ok (.iconst 1, 1) := by decide +kernel
theorem dX4_sync_13 : decode cX4_sync 13 = .ok (.invokevirtual 46, 3) := by decide +kernel
theorem dX4_sync_16 : decode cX4_sync 16 = .ok (.ifCond .ne 5, 3) := by decide +kernel
theorem dX4_sync_19 : decode cX4_sync 19 = .ok (.iconst 0, 1) := by decide +kernel
theorem dX4_sync_20 : decode cX4_sync 20 = .ok (.ireturn, 1) := by decide +kernel
theorem dX4_sync_21 : decode cX4_sync 21 = .ok (.iconst 0, 1) := by decide +kernel
theorem dX4_sync_22 : decode cX4_sync 22 = .ok (.istore_n 2, 1) := by decide +kernel
theorem dX4_sync_23 : decode cX4_sync 23 = .ok (.iconst 0, 1) := by decide +kernel
theorem dX4_sync_24 : decode cX4_sync 24 = .ok (.istore_n 3, 1) := by decide +kernel
theorem dX4_sync_25 : decode cX4_sync 25 = .ok (.iload_n 3, 1) := by decide +kernel
theorem dX4_sync_26 : decode cX4_sync 26 = .ok (.aload_n 0, 1) := by decide +kernel
theorem dX4_sync_27 : decode cX4_sync 27 = .ok (.getfield 35, 3) := by decide +kernel
theorem dX4_sync_30 : decode cX4_sync 30 = .ok (.if_icmp .ge 102, 3) := by decide +kernel
theorem dX4_sync_33 : decode cX4_sync 33 = .ok (.aload_n 0, 1) := by decide +kernel
theorem dX4_sync_34 : decode cX4_sync 34 = .ok (.getfield 7, 3) := by decide +kernel
theorem dX4_sync_37 : decode cX4_sync 37 = .ok (.iload_n 3, 1) := by decide +kernel
theorem dX4_sync_38 : decode cX4_sync 38 = .ok (.iaload, 1) := by decide +kernel
theorem dX4_sync_39 : decode cX4_sync 39 = .ok (.iload_n 1, 1) := by decide +kernel
theorem dX4_sync_40 : decode cX4_sync 40 = .ok (.if_icmp .ne 86, 3) := by decide +kernel
theorem dX4_sync_43 : decode cX4_sync 43 = .ok (.iload_n 2, 1) := by decide +kernel
theorem dX4_sync_44 : decode cX4_sync 44 = .ok (.aload_n 0, 1) := by decide +kernel
theorem dX4_sync_45 : decode cX4_sync 45 = .ok (.iload_n 3, 1) := by decide +kernel
theorem dX4_sync_46 : decode cX4_sync 46 = .ok (.invokevirtual 75, 3) := by decide +kernel
theorem dX4_sync_49 : decode cX4_sync 49 = .ok (.ifCond .eq 7, 3) := by decide +kernel
theorem dX4_sync_52 : decode cX4_sync 52 = .ok (.iconst 1, 1) := by decide +kernel
theorem dX4_sync_53 : decode cX4_sync 53 = .ok (.goto 4, 3) := by decide +kernel
theorem dX4_sync_56 : decode cX4_sync 56 = .ok (.iconst 0, 1) := by decide +kernel
theorem dX4_sync_57 : decode cX4_sync 57 = .ok (.iadd, 1) := by decide +kernel
theorem dX4_sync_58 : decode cX4_sync 58 = .ok (.istore_n 2, 1) := by decide +kernel
theorem dX4_sync_59 : decode cX4_sync 59 = .ok (.aload_n 0, 1) := by decide +kernel
theorem dX4_sync_60 : decode cX4_sync 60 = .ok (.iload_n 3, 1) := by decide +kernel
theorem dX4_sync_61 : decode cX4_sync 61 = .ok (.iconst 0, 1) := by decide +kernel
theorem dX4_sync_62 : decode cX4_sync 62 = .ok (.invokevirtual 78, 3) := by decide +kernel
theorem dX4_sync_65 : decode cX4_sync 65 = .ok (.istore 4, 2) := by decide +kernel
theorem dX4_sync_67 : decode cX4_sync 67 = .ok (.aload_n 0, 1) := by decide +kernel
theorem dX4_sync_68 : decode cX4_sync 68 = .ok (.iload_n 3, 1) := by decide +kernel
theorem dX4_sync_69 : decode cX4_sync 69 = .ok (.iconst 1, 1) := by decide +kernel
theorem dX4_sync_70 : decode cX4_sync 70 = .ok (.invokevirtual 78, 3) := by decide +kernel
theorem dX4_sync_73 : decode cX4_sync 73 = .ok (.istore 5, 2) := by decide +kernel
theorem dX4_sync_75 : decode cX4_sync 75 = .ok (.aload_n 0, 1) := by decide +kernel
theorem dX4_sync_76 : decode cX4_sync 76 = .ok (.iload_n 3, 1) := by decide +kernel
theorem dX4_sync_77 : decode cX4_sync 77 = .ok (.invokevirtual 82, 3) := by decide +kernel
theorem dX4_sync_80 : decode cX4_sync 80 = .ok (.istore 6, 2) := by decide +kernel
theorem dX4_sync_82 : decode cX4_sync 82 = .ok (.iconst 0, 1) := by decide +kernel
theorem dX4_sync_83 : decode cX4_sync 83 = .ok (.istore 7, 2) := by decide +kernel
theorem dX4_sync_85 : decode cX4_sync 85 = .ok (.iload 7, 2) := by decide +kernel
theorem dX4_sync_87 : decode cX4_sync 87 = .ok (.iconst 3, 1) := by decide +kernel
theorem dX4_sync_88 : decode cX4_sync 88 = .ok (.if_icmp .ge 38, 3) := by decide +kernel
theorem dX4_sync_91 : decode cX4_sync 91 = .ok (.aload_n 0, 1) := by decide +kernel
theorem dX4_sync_92 : decode cX4_sync 92 = .ok (.iload_n 3, 1) := by decide +kernel
theorem dX4_sync_93 : decode cX4_sync 93 = .ok (.iload 7, 2) := by decide +kernel
theorem dX4_sync_95 : decode cX4_sync 95 = .ok (.iconst 0, 1) := by decide +kernel
theorem dX4_sync_96 : decode cX4_sync 96 = .ok (.iload 4, 2) := by decide +kernel
theorem dX4_sync_98 : decode cX4_sync 98 = .ok (.invokevirtual 63, 3) := by decide +kernel
theorem dX4_sync_101 : decode cX4_sync 101 = .ok (.aload_n 0, 1) := by decide +kernel
theorem dX4_sync_102 : decode cX4_sync 102 = .ok (.iload_n 3, 1) := by decide +kernel
theorem dX4_sync_103 : decode cX4_sync 103 = .ok (.iload 7, 2) := by decide +kernel
theorem dX4_sync_105 : decode cX4_sync 105 = .ok (.iconst 1, 1) := by decide +kernel
theorem dX4_sync_106 : decode cX4_sync 106 = .ok (.iload 5, 2) := by decide +kernel
theorem dX4_sync_108 : decode cX4_sync 108 = .ok (.invokevirtual 63, 3) := by decide +kernel
theorem dX4_sync_111 : decode cX4_sync 111 = .ok (.aload_n 0, 1) := by decide +kernel
theorem dX4_sync_112 : decode cX4_sync 112 = .ok (.iload_n 3, 1) := by decide +kernel
theorem dX4_sync_113 : decode cX4_sync 113 = .ok (.iload 7, 2) := by decide +kernel
theorem dX4_sync_115 : decode cX4_sync 115 = .ok (.iload 6, 2) := by decide +kernel
theorem dX4_sync_117 : decode cX4_sync 117 = .ok (.invokevirtual 71, 3) := by decide +kernel
theorem dX4_sync_120 : decode cX4_sync 120 = .ok (.iinc 7 1, 3) := by decide +kernel
theorem dX4_sync_123 : decode cX4_sync 123 = .ok (.goto (-38), 3) := by decide +kernel
theorem dX4_sync_126 : decode cX4_sync 126 = .ok (.iinc 3 1, 3) := by decide +kernel
theorem dX4_sync_129 : decode cX4_sync 129 = .ok (.goto (-104), 3) := by decide +kernel
theorem dX4_sync_132 : decode cX4_sync 132 = .ok (.iload_n 2, 1) := by decide +kernel
theorem dX4_sync_133 : decode cX4_sync 133 = .ok (.ireturn, 1) := by decide +kernel
theorem dX4_cards_0 : decode cX4_cards 0 = .ok (.aload_n 0, 1) := by decide +kernel
theorem dX4_cards_1 : decode cX4_cards 1 = .ok (.iconst 0, 1) := by decide +kernel
theorem dX4_cards_2 : decode cX4_cards 2 = .ok (.putfield 31, 3) := by decide +kernel
theorem dX4_cards_5 : decode cX4_cards 5 = .ok (.aload_n 0, 1) := by decide +kernel
theorem dX4_cards_6 : decode cX4_cards 6 = .ok (.getfield 35, 3) := by decide +kernel
theorem dX4_cards_9 : decode cX4_cards 9 = .ok (.ireturn, 1) := by decide +kernel
set_option maxRecDepth 20000 in
theorem ggX4_values_X4_isIn : GoodIn wsX4_values wsX4_isIn := goodIn_r _ [5] (by decide +kernel) (by decide +kernel)
set_option maxRecDepth 20000 in
theorem gX4_values_X4_isIn : GoodIn wsX4_values (va_wsS RX4 38 yX4_isIn wsX4_isIn) := goodIn_app (goodIn_of _ (by decide +kernel)) ggX4_values_X4_isIn
set_option maxRecDepth 20000 in
theorem ggX4_values_X4_isKind : GoodIn wsX4_values wsX4_isKind := goodIn_r _ [8, 2, 3, 4, 5] (by decide +kernel) (by decide +kernel)
set_option maxRecDepth 20000 in
theorem gX4_values_X4_isKind : GoodIn wsX4_values (va_wsS RX4 57 yX4_isKind wsX4_isKind) := goodIn_app (goodIn_of _ (by decide +kernel)) ggX4_values_X4_isKind
set_option maxRecDepth 20000 in
theorem ggX4_values_X4_isCard : GoodIn wsX4_values wsX4_isCard := goodIn_r _ [12, 13, 2, 3, 4, 5, 22, 23, 24, 25, 26, 27, 28, 29, 30] (by decide +kernel) (by decide +kernel)
set_option maxRecDepth 20000 in
theorem gX4_values_X4_isCard : GoodIn wsX4_values (wsV RX4 60 RX4 yX4_isCard wsX4_isCard) := goodIn_app (goodIn_of _ (by decide +kernel)) ggX4_values_X4_isCard
set_option maxRecDepth 20000 in
theorem ggX4_values_X4_isFine : GoodIn wsX4_values wsX4_isFine := goodIn_r _ [17, 18, 22, 23, 24, 25, 26, 27, 28, 29, 30] (by decide +kernel) (by decide +kernel)
set_option maxRecDepth 20000 in
theorem gX4_values_X4_isFine : GoodIn wsX4_values (wsV RX4 46 RX4 yX4_isFine wsX4_isFine) := goodIn_app (goodIn_of _ (by decide +kernel)) ggX4_values_X4_isFine
set_option maxRecDepth 20000 in
theorem ggX4_values_X4_at : GoodIn wsX4_values wsX4_at := goodIn_r _ [21] (by decide +kernel) (by decide +kernel)
set_option maxRecDepth 20000 in
theorem gX4_values_X4_at : GoodIn wsX4_values (va_wsS RX4 49 yX4_at wsX4_at) := goodIn_app (goodIn_of _ (by decide +kernel)) ggX4_values_X4_at
theorem dX4_values_0 : decode cX4_values 0 = .ok (.iload_n 2, 1) := by decide +kernel
theorem dX4_values_1 : decode cX4_values 1 = .ok (.iconst 0, 1) := by decide +kernel
theorem dX4_values_2 : decode cX4_values 2 = .ok (.iconst 2, 1) := by decide +kernel
theorem dX4_values_3 : decode cX4_values 3 = .ok (.invokestatic 38, 3) := by decide +kernel
theorem dX4_values_6 : decode cX4_values 6 = .ok (.ifCond .eq 14, 3) := by decide +kernel
theorem dX4_values_9 : decode cX4_values 9 = .ok (.iload_n 3, 1) := by decide +kernel
theorem dX4_values_10 : decode cX4_values 10 = .ok (.invokestatic 57, 3) := by decide +kernel
theorem dX4_values_13 : decode cX4_values 13 = .ok (.ifCond .eq 7, 3) := by decide +kernel
theorem dX4_values_16 : decode cX4_values 16 = .ok (.iconst 1, 1) := by decide +kernel
theorem dX4_values_17 : decode cX4_values 17 = .ok (.goto 4, 3) := by decide +kernel
theorem dX4_values_20 : decode cX4_values 20 = .ok (.iconst 0, 1) := by decide +kernel
theorem dX4_values_21 : decode cX4_values 21 = .ok (.istore 4, 2) := by decide +kernel
theorem dX4_values_23 : decode cX4_values 23 = .ok (.aload_n 0, 1) := by decide +kernel
theorem dX4_values_24 : decode cX4_values 24 = .ok (.aload_n 0, 1) := by decide +kernel
theorem dX4_values_25 : decode cX4_values 25 = .ok (.iload_n 1, 1) := by decide +kernel
theorem dX4_values_26 : decode cX4_values 26 = .ok (.invokevirtual 60, 3) := by decide +kernel
theorem dX4_values_29 : decode cX4_values 29 = .ok (.ifCond .ne 7, 3) := by decide +kernel
theorem dX4_values_32 : decode cX4_values 32 = .ok (.iconst 1, 1) := by decide +kernel
theorem dX4_values_33 : decode cX4_values 33 = .ok (.goto 13, 3) := by decide +kernel
theorem dX4_values_36 : decode cX4_values 36 = .ok (.iload 4, 2) := by decide +kernel
theorem dX4_values_38 : decode cX4_values 38 = .ok (.ifCond .ne 7, 3) := by decide +kernel
theorem dX4_values_41 : decode cX4_values 41 = .ok (.iconst 2, 1) := by decide +kernel
theorem dX4_values_42 : decode cX4_values 42 = .ok (.goto 4, 3) := by decide +kernel
theorem dX4_values_45 : decode cX4_values 45 = .ok (.iconst 0, 1) := by decide +kernel
theorem dX4_values_46 : decode cX4_values 46 = .ok (.invokevirtual 46, 3) := by decide +kernel
theorem dX4_values_49 : decode cX4_values 49 = .ok (.ifCond .eq 17, 3) := by decide +kernel
theorem dX4_values_52 : decode cX4_values 52 = .ok (.aload_n 0, 1) := by decide +kernel
theorem dX4_values_53 : decode cX4_values 53 = .ok (.getfield 16, 3) := by decide +kernel
theorem dX4_values_56 : decode cX4_values 56 = .ok (.iload_n 1, 1) := by decide +kernel
theorem dX4_values_57 : decode cX4_values 57 = .ok (.iload_n 2, 1) := by decide +kernel
theorem dX4_values_58 : decode cX4_values 58 = .ok (.iload_n 3, 1) := by decide +kernel
theorem dX4_values_59 : decode cX4_values 59 = .ok (.invokestatic 49, 3) := by decide +kernel
theorem dX4_values_62 : decode cX4_values 62 = .ok (.iaload, 1) := by decide +kernel
theorem dX4_values_63 : decode cX4_values 63 = .ok (.goto 4, 3) := by decide +kernel
theorem dX4_values_66 : decode cX4_values 66 = .ok (.iconst 0, 1) := by decide +kernel
theorem dX4_values_67 : decode cX4_values 67 = .ok (.ireturn, 1) := by decide +kernel
set_option maxRecDepth 20000 in
theorem ggX4_nameOf_X4_isCard : GoodIn wsX4_nameOf wsX4_isCard := goodIn_r _ [6, 7, 8, 9, 5, 10, 16, 17, 18, 19, 20, 21, 22, 23, 24] (by decide +kernel) (by decide +kernel)
set_option maxRecDepth 20000 in
theorem gX4_nameOf_X4_isCard : GoodIn wsX4_nameOf (wsV RX4 60 RX4 yX4_isCard wsX4_isCard) := goodIn_app (goodIn_of _ (by decide +kernel)) ggX4_nameOf_X4_isCard
set_option maxRecDepth 20000 in
theorem ggX4_nameOf_X4_isIn : GoodIn wsX4_nameOf wsX4_isIn := goodIn_r _ [10] (by decide +kernel) (by decide +kernel)
set_option maxRecDepth 20000 in
theorem gX4_nameOf_X4_isIn : GoodIn wsX4_nameOf (va_wsS RX4 38 yX4_isIn wsX4_isIn) := goodIn_app (goodIn_of _ (by decide +kernel)) ggX4_nameOf_X4_isIn
set_option maxRecDepth 20000 in
theorem ggX4_nameOf_X4_isFine : GoodIn wsX4_nameOf wsX4_isFine := goodIn_r _ [14, 15, 16, 17, 18, 19, 20, 21, 22, 23, 24] (by decide +kernel) (by decide +kernel)
set_option maxRecDepth 20000 in
theorem gX4_nameOf_X4_isFine : GoodIn wsX4_nameOf (wsV RX4 46 RX4 yX4_isFine wsX4_isFine) := goodIn_app (goodIn_of _ (by decide +kernel)) ggX4_nameOf_X4_isFine
theorem dX4_nameOf_0 : decode cX4_nameOf 0 = .ok (.aload_n 0, 1) := by decide +kernel
theorem dX4_nameOf_1 : decode cX4_nameOf 1 = .ok (.aload_n 0, 1) := by decide +kernel
theorem dX4_nameOf_2 : decode cX4_nameOf 2 = .ok (.iload_n 1, 1) := by decide +kernel
theorem dX4_nameOf_3 : decode cX4_nameOf 3 = .ok (.invokevirtual 60, 3) := by decide +kernel
theorem dX4_nameOf_6 : decode cX4_nameOf 6 = .ok (.ifCond .ne 7, 3) := by decide +kernel
theorem dX4_nameOf_9 : decode cX4_nameOf 9 = .ok (.iconst 1, 1) := by decide +kernel
theorem dX4_nameOf_10 : decode cX4_nameOf 10 = .ok (.goto 17, 3) := by decide +kernel
theorem dX4_nameOf_13 : decode cX4_nameOf 13 = .ok (.iload_n 2, 1) := by decide +kernel
theorem dX4_nameOf_14 : decode cX4_nameOf 14 = .ok (.iconst 0, 1) := by decide +kernel
theorem dX4_nameOf_15 : decode cX4_nameOf 15 = .ok (.iconst 2, 1) := by decide +kernel
theorem dX4_nameOf_16 : decode cX4_nameOf 16 = .ok (.invokestatic 38, 3) := by decide +kernel
theorem dX4_nameOf_19 : decode cX4_nameOf 19 = .ok (.ifCond .ne 7, 3) := by decide +kernel
theorem dX4_nameOf_22 : decode cX4_nameOf 22 = .ok (.iconst 2, 1) := by decide +kernel
theorem dX4_nameOf_23 : decode cX4_nameOf 23 = .ok (.goto 4, 3) := by decide +kernel
theorem dX4_nameOf_26 : decode cX4_nameOf 26 = .ok (.iconst 0, 1) := by decide +kernel
theorem dX4_nameOf_27 : decode cX4_nameOf 27 = .ok (.invokevirtual 46, 3) := by decide +kernel
theorem dX4_nameOf_30 : decode cX4_nameOf 30 = .ok (.ifCond .eq 16, 3) := by decide +kernel
theorem dX4_nameOf_33 : decode cX4_nameOf 33 = .ok (.aload_n 0, 1) := by decide +kernel
theorem dX4_nameOf_34 : decode cX4_nameOf 34 = .ok (.getfield 13, 3) := by decide +kernel
theorem dX4_nameOf_37 : decode cX4_nameOf 37 = .ok (.iconst 3, 1) := by decide +kernel
theorem dX4_nameOf_38 : decode cX4_nameOf 38 = .ok (.iload_n 1, 1) := by decide +kernel
theorem dX4_nameOf_39 : decode cX4_nameOf 39 = .ok (.imul, 1) := by decide +kernel
theorem dX4_nameOf_40 : decode cX4_nameOf 40 = .ok (.iload_n 2, 1) := by decide +kernel
theorem dX4_nameOf_41 : decode cX4_nameOf 41 = .ok (.iadd, 1) := by decide +kernel
theorem dX4_nameOf_42 : decode cX4_nameOf 42 = .ok (.iaload, 1) := by decide +kernel
theorem dX4_nameOf_43 : decode cX4_nameOf 43 = .ok (.goto 4, 3) := by decide +kernel
theorem dX4_nameOf_46 : decode cX4_nameOf 46 = .ok (.iconst 0, 1) := by decide +kernel
theorem dX4_nameOf_47 : decode cX4_nameOf 47 = .ok (.ireturn, 1) := by decide +kernel
set_option maxRecDepth 20000 in
theorem ggX4_merged_X4_isCard : GoodIn wsX4_merged wsX4_isCard := goodIn_r _ [5, 6, 7, 8, 4, 9, 26, 27, 28, 29, 30, 31, 32, 33, 34] (by decide +kernel) (by decide +kernel)
set_option maxRecDepth 20000 in
theorem gX4_merged_X4_isCard : GoodIn wsX4_merged (wsV RX4 60 RX4 yX4_isCard wsX4_isCard) := goodIn_app (goodIn_of _ (by decide +kernel)) ggX4_merged_X4_isCard
set_option maxRecDepth 20000 in
theorem ggX4_merged_X4_isKind : GoodIn wsX4_merged wsX4_isKind := goodIn_r _ [12, 7, 8, 4, 9] (by decide +kernel) (by decide +kernel)
set_option maxRecDepth 20000 in
theorem gX4_merged_X4_isKind : GoodIn wsX4_merged (va_wsS RX4 57 yX4_isKind wsX4_isKind) := goodIn_app (goodIn_of _ (by decide +kernel)) ggX4_merged_X4_isKind
set_option maxRecDepth 20000 in
theorem ggX4_merged_X4_isFine : GoodIn wsX4_merged wsX4_isFine := goodIn_r _ [16, 17, 26, 27, 28, 29, 30, 31, 32, 33, 34] (by decide +kernel) (by decide +kernel)
set_option maxRecDepth 20000 in
theorem gX4_merged_X4_isFine : GoodIn wsX4_merged (wsV RX4 46 RX4 yX4_isFine wsX4_isFine) := goodIn_app (goodIn_of _ (by decide +kernel)) ggX4_merged_X4_isFine
set_option maxRecDepth 20000 in
theorem ggX4_merged_X4_mergedOf : GoodIn wsX4_merged wsX4_mergedOf := goodIn_r _ [21, 22, 23, 24, 4, 25, 26, 27, 28, 29, 30, 31, 32, 33, 34] (by decide +kernel) (by decide +kernel)
set_option maxRecDepth 20000 in
theorem gX4_merged_X4_mergedOf : GoodIn wsX4_merged (wsV RX4 78 RX4 yX4_mergedOf wsX4_mergedOf) := goodIn_app (goodIn_of _ (by decide +kernel)) ggX4_merged_X4_mergedOf
theorem dX4_merged_0 : decode cX4_merged 0 = .ok (.aload_n 0, 1) := by decide +kernel
theorem dX4_merged_1 : decode cX4_merged 1 = .ok (.aload_n 0, 1) := by decide +kernel
theorem dX4_merged_2 : decode cX4_merged 2 = .ok (.iload_n 1, 1) := by decide +kernel
theorem dX4_merged_3 : decode cX4_merged 3 = .ok (.invokevirtual 60, 3) := by decide +kernel
theorem dX4_merged_6 : decode cX4_merged 6 = .ok (.ifCond .ne 7, 3) := by decide +kernel
theorem dX4_merged_9 : decode cX4_merged 9 = .ok (.iconst 1, 1) := by decide +kernel
theorem dX4_merged_10 : decode cX4_merged 10 = .ok (.goto 15, 3) := by decide +kernel
theorem dX4_merged_13 : decode cX4_merged 13 = .ok (.iload_n 2, 1) := by decide +kernel
theorem dX4_merged_14 : decode cX4_merged 14 = .ok (.invokestatic 57, 3) := by decide +kernel
theorem dX4_merged_17 : decode cX4_merged 17 = .ok (.ifCond .ne 7, 3) := by decide +kernel
theorem dX4_merged_20 : decode cX4_merged 20 = .ok (.iconst 2, 1) := by decide +kernel
theorem dX4_merged_21 : decode cX4_merged 21 = .ok (.goto 4, 3) := by decide +kernel
theorem dX4_merged_24 : decode cX4_merged 24 = .ok (.iconst 0, 1) := by decide +kernel
theorem dX4_merged_25 : decode cX4_merged 25 = .ok (.invokevirtual 46, 3) := by decide +kernel
theorem dX4_merged_28 : decode cX4_merged 28 = .ok (.ifCond .eq 12, 3) := by decide +kernel
theorem dX4_merged_31 : decode cX4_merged 31 = .ok (.aload_n 0, 1) := by decide +kernel
theorem dX4_merged_32 : decode cX4_merged 32 = .ok (.iload_n 1, 1) := by decide +kernel
theorem dX4_merged_33 : decode cX4_merged 33 = .ok (.iload_n 2, 1) := by decide +kernel
theorem dX4_merged_34 : decode cX4_merged 34 = .ok (.invokevirtual 78, 3) := by decide +kernel
theorem dX4_merged_37 : decode cX4_merged 37 = .ok (.goto 4, 3) := by decide +kernel
theorem dX4_merged_40 : decode cX4_merged 40 = .ok (.iconst 0, 1) := by decide +kernel
theorem dX4_merged_41 : decode cX4_merged 41 = .ok (.ireturn, 1) := by decide +kernel
set_option maxRecDepth 20000 in
theorem ggX4_mergedByValues_X4_isCard : GoodIn wsX4_mergedByValues wsX4_isCard := goodIn_r _ [5, 6, 7, 8, 4, 9, 26, 27, 28, 29, 30, 31, 32, 33, 34] (by decide +kernel) (by decide +kernel)
set_option maxRecDepth 20000 in
theorem gX4_mergedByValues_X4_isCard : GoodIn wsX4_mergedByValues (wsV RX4 60 RX4 yX4_isCard wsX4_isCard) := goodIn_app (goodIn_of _ (by decide +kernel)) ggX4_mergedByValues_X4_isCard
set_option maxRecDepth 20000 in
theorem ggX4_mergedByValues_X4_isKind : GoodIn wsX4_mergedByValues wsX4_isKind := goodIn_r _ [12, 7, 8, 4, 9] (by decide +kernel) (by decide +kernel)
set_option maxRecDepth 20000 in
theorem gX4_mergedByValues_X4_isKind : GoodIn wsX4_mergedByValues (va_wsS RX4 57 yX4_isKind wsX4_isKind) := goodIn_app (goodIn_of _ (by decide +kernel)) ggX4_mergedByValues_X4_isKind
set_option maxRecDepth 20000 in
theorem ggX4_mergedByValues_X4_isFine : GoodIn wsX4_mergedByValues wsX4_isFine := goodIn_r _ [16, 17, 26, 27, 28, 29, 30, 31, 32, 33, 34] (by decide +kernel) (by decide +kernel)
set_option maxRecDepth 20000 in
theorem gX4_mergedByValues_X4_isFine : GoodIn wsX4_mergedByValues (wsV RX4 46 RX4 yX4_isFine wsX4_isFine) := goodIn_app (goodIn_of _ (by decide +kernel)) ggX4_mergedByValues_X4_isFine
set_option maxRecDepth 20000 in
theorem ggX4_mergedByValues_X4_mergedOf : GoodIn wsX4_mergedByValues wsX4_mergedOf := goodIn_r _ [21, 22, 23, 24, 4, 25, 26, 27, 28, 29, 30, 31, 32, 33, 34] (by decide +kernel) (by decide +kernel)
set_option maxRecDepth 20000 in
theorem gX4_mergedByValues_X4_mergedOf : GoodIn wsX4_mergedByValues (wsV RX4 78 RX4 yX4_mergedOf wsX4_mergedOf) := goodIn_app (goodIn_of _ (by decide +kernel)) ggX4_mergedByValues_X4_mergedOf
theorem dX4_mergedByValues_0 : decode cX4_mergedByValues 0 = .ok (.aload_n 0, 1) := by decide +kernel
theorem dX4_mergedByValues_1 : decode cX4_mergedByValues 1 = .ok (.aload_n 0, 1) := by decide +kernel
theorem dX4_mergedByValues_2 : decode cX4_mergedByValues 2 = .ok (.iload_n 1, 1) := by decide +kernel
theorem dX4_mergedByValues_3 : decode cX4_mergedByValues 3 = .ok (.invokevirtual 60, 3) := by decide +kernel
theorem dX4_mergedByValues_6 : decode cX4_mergedByValues 6 = .ok (.ifCond .ne 7, 3) := by decide +kernel
theorem dX4_mergedByValues_9 : decode cX4_mergedByValues 9 = .ok (.iconst 1, 1) := by decide +kernel
theorem dX4_mergedByValues_10 : decode cX4_mergedByValues 10 = .ok (.goto 15, 3) := by decide +kernel
theorem dX4_mergedByValues_13 : decode cX4_mergedByValues 13 = .ok (.iload_n 2, 1) := by decide +kernel
theorem dX4_mergedByValues_14 : decode cX4_mergedByValues 14 = .ok (.invokestatic 57, 3) := by decide +kernel
theorem dX4_mergedByValues_17 : decode cX4_mergedByValues 17 = .ok (.ifCond .ne 7, 3) := by decide +kernel
theorem dX4_mergedByValues_20 : decode cX4_mergedByValues 20 = .ok (.iconst 2, 1) := by decide +kernel
theorem dX4_mergedByValues_21 : decode cX4_mergedByValues 21 = .ok (.goto 4, 3) := by decide +kernel
theorem dX4_mergedByValues_24 : decode cX4_mergedByValues 24 = .ok (.iconst 0, 1) := by decide +kernel
theorem dX4_mergedByValues_25 : decode cX4_mergedByValues 25 = .ok (.invokevirtual 46, 3) := by decide +kernel
theorem dX4_mergedByValues_28 : decode cX4_mergedByValues 28 = .ok (.ifCond .eq 12, 3) := by decide +kernel
theorem dX4_mergedByValues_31 : decode cX4_mergedByValues 31 = .ok (.aload_n 0, 1) := by decide +kernel
theorem dX4_mergedByValues_32 : decode cX4_mergedByValues 32 = .ok (.iload_n 1, 1) := by decide +kernel
theorem dX4_mergedByValues_33 : decode cX4_mergedByValues 33 = .ok (.iload_n 2, 1) := by decide +kernel
theorem dX4_mergedByValues_34 : decode cX4_mergedByValues 34 = .ok (.invokevirtual 78, 3) := by decide +kernel
theorem dX4_mergedByValues_37 : decode cX4_mergedByValues 37 = .ok (.goto 4, 3) := by decide +kernel
theorem dX4_mergedByValues_40 : decode cX4_mergedByValues 40 = .ok (.iconst 0, 1) := by decide +kernel
theorem dX4_mergedByValues_41 : decode cX4_mergedByValues 41 = .ok (.ireturn, 1) := by decide +kernel
set_option maxRecDepth 20000 in
theorem ggX4_unsynced_X4_isBook : GoodIn wsX4_unsynced wsX4_isBook := goodIn_r _ [8, 9, 10, 7, 11] (by decide +kernel) (by decide +kernel)
set_option maxRecDepth 20000 in
theorem gX4_unsynced_X4_isBook : GoodIn wsX4_unsynced (va_wsS RX4 42 yX4_isBook wsX4_isBook) := goodIn_app (goodIn_of _ (by decide +kernel)) ggX4_unsynced_X4_isBook
set_option maxRecDepth 20000 in
theorem ggX4_unsynced_X4_isFine : GoodIn wsX4_unsynced wsX4_isFine := goodIn_r _ [15, 16, 28, 29, 30, 31, 32, 33, 34, 35, 36] (by decide +kernel) (by decide +kernel)
set_option maxRecDepth 20000 in
theorem gX4_unsynced_X4_isFine : GoodIn wsX4_unsynced (wsV RX4 46 RX4 yX4_isFine wsX4_isFine) := goodIn_app (goodIn_of _ (by decide +kernel)) ggX4_unsynced_X4_isFine
set_option maxRecDepth 20000 in
theorem ggX4_unsynced_X4_mergedName : GoodIn wsX4_unsynced wsX4_mergedName := goodIn_r _ [20, 2, 28, 29, 30, 31, 32, 33, 34, 35, 36] (by decide +kernel) (by decide +kernel)
set_option maxRecDepth 20000 in
theorem gX4_unsynced_X4_mergedName : GoodIn wsX4_unsynced (wsV RX4 82 RX4 yX4_mergedName wsX4_mergedName) := goodIn_app (goodIn_of _ (by decide +kernel)) ggX4_unsynced_X4_mergedName
set_option maxRecDepth 20000 in
theorem ggX4_unsynced_X4_at : GoodIn wsX4_unsynced wsX4_at := goodIn_r _ [23] (by decide +kernel) (by decide +kernel)
set_option maxRecDepth 20000 in
theorem gX4_unsynced_X4_at : GoodIn wsX4_unsynced (va_wsS RX4 49 yX4_at wsX4_at) := goodIn_app (goodIn_of _ (by decide +kernel)) ggX4_unsynced_X4_at
set_option maxRecDepth 20000 in
theorem ggX4_unsynced_X4_mergedOf : GoodIn wsX4_unsynced wsX4_mergedOf := goodIn_r _ [27, 3, 21, 22, 7, 23, 28, 29, 30, 31, 32, 33, 34, 35, 36] (by decide +kernel) (by decide +kernel)
set_option maxRecDepth 20000 in
theorem gX4_unsynced_X4_mergedOf : GoodIn wsX4_unsynced (wsV RX4 78 RX4 yX4_mergedOf wsX4_mergedOf) := goodIn_app (goodIn_of _ (by decide +kernel)) ggX4_unsynced_X4_mergedOf
theorem dX4_unsynced_0 : decode cX4_unsynced 0 = .ok (.aload_n 0, 1) := by decide +kernel
theorem dX4_unsynced_1 : decode cX4_unsynced 1 = .ok (.iload_n 1, 1) := by decide +kernel
theorem dX4_unsynced_2 : decode cX4_unsynced 2 = .ok (.invokestatic 42, 3) := by decide +kernel
theorem dX4_unsynced_5 : decode cX4_unsynced 5 = .ok (.ifCond .eq 7, 3) := by decide +kernel
theorem dX4_unsynced_8 : decode cX4_unsynced 8 = .ok (.iconst 0, 1) := by decide +kernel
theorem dX4_unsynced_9 : decode cX4_unsynced 9 = .ok (.goto 4, 3) := by decide +kernel
theorem dX4_unsynced_12 : decode cX4_unsynced 12 = .ok (.iconst 1, 1) := by decide +kernel
theorem dX4_unsynced_13 : decode cX4_unsynced 13 = .ok (.invokevirtual 46, 3) := by decide +kernel
theorem dX4_unsynced_16 : decode cX4_unsynced 16 = .ok (.ifCond .ne 5, 3) := by decide +kernel
theorem dX4_unsynced_19 : decode cX4_unsynced 19 = .ok (.iconst 0, 1) := by decide +kernel
theorem dX4_unsynced_20 : decode cX4_unsynced 20 = .ok (.ireturn, 1) := by decide +kernel
theorem dX4_unsynced_21 : decode cX4_unsynced 21 = .ok (.iconst 0, 1) := by decide +kernel
theorem dX4_unsynced_22 : decode cX4_unsynced 22 = .ok (.istore_n 2, 1) := by decide +kernel
theorem dX4_unsynced_23 : decode cX4_unsynced 23 = .ok (.iconst 0, 1) := by decide +kernel
theorem dX4_unsynced_24 : decode cX4_unsynced 24 = .ok (.istore_n 3, 1) := by decide +kernel
theorem dX4_unsynced_25 : decode cX4_unsynced 25 = .ok (.iload_n 3, 1) := by decide +kernel
theorem dX4_unsynced_26 : decode cX4_unsynced 26 = .ok (.aload_n 0, 1) := by decide +kernel
theorem dX4_unsynced_27 : decode cX4_unsynced 27 = .ok (.getfield 35, 3) := by decide +kernel
theorem dX4_unsynced_30 : decode cX4_unsynced 30 = .ok (.if_icmp .ge 123, 3) := by decide +kernel
theorem dX4_unsynced_33 : decode cX4_unsynced 33 = .ok (.iconst 1, 1) := by decide +kernel
theorem dX4_unsynced_34 : decode cX4_unsynced 34 = .ok (.istore 4, 2) := by decide +kernel
theorem dX4_unsynced_36 : decode cX4_unsynced 36 = .ok (.iconst 0, 1) := by decide +kernel
theorem dX4_unsynced_37 : decode cX4_unsynced 37 = .ok (.istore 5, 2) := by decide +kernel
theorem dX4_unsynced_39 : decode cX4_unsynced 39 = .ok (.iload 5, 2) := by decide +kernel
theorem dX4_unsynced_41 : decode cX4_unsynced 41 = .ok (.iconst 3, 1) := by decide +kernel
theorem dX4_unsynced_42 : decode cX4_unsynced 42 = .ok (.if_icmp .ge 82, 3) := by decide +kernel
theorem dX4_unsynced_45 : decode cX4_unsynced 45 = .ok (.iload 4, 2) := by decide +kernel
theorem dX4_unsynced_47 : decode cX4_unsynced 47 = .ok (.ifCond .eq 68, 3) := by decide +kernel
theorem dX4_unsynced_50 : decode cX4_unsynced 50 = .ok (.aload_n 0, 1) := by decide +kernel
theorem dX4_unsynced_51 : decode cX4_unsynced 51 = .ok (.getfield 13, 3) := by decide +kernel
theorem dX4_unsynced_54 : decode cX4_unsynced 54 = .ok (.iconst 3, 1) := by decide +kernel
theorem dX4_unsynced_55 : decode cX4_unsynced 55 = .ok (.iload_n 3, 1) := by decide +kernel
theorem dX4_unsynced_56 : decode cX4_unsynced 56 = .ok (.imul, 1) := by decide +kernel
theorem dX4_unsynced_57 : decode cX4_unsynced 57 = .ok (.iload 5, 2) := by decide +kernel
theorem dX4_unsynced_59 : decode cX4_unsynced 59 = .ok (.iadd, 1) := by decide +kernel
theorem dX4_unsynced_60 : decode cX4_unsynced 60 = .ok (.iaload, 1) := by decide +kernel
theorem dX4_unsynced_61 : decode cX4_unsynced 61 = .ok (.aload_n 0, 1) := by decide +kernel
theorem dX4_unsynced_62 : decode cX4_unsynced 62 = .ok (.iload_n 3, 1) := by decide +kernel
theorem dX4_unsynced_63 : decode cX4_unsynced 63 = .ok (.invokevirtual 82, 3) := by decide +kernel
theorem dX4_unsynced_66 : decode cX4_unsynced 66 = .ok (.if_icmp .ne 49, 3) := by decide +kernel
theorem dX4_unsynced_69 : decode cX4_unsynced 69 = .ok (.aload_n 0, 1) := by decide +kernel
theorem dX4_unsynced_70 : decode cX4_unsynced 70 = .ok (.getfield 16, 3) := by decide +kernel
theorem dX4_unsynced_73 : decode cX4_unsynced 73 = .ok (.iload_n 3, 1) := by decide +kernel
theorem dX4_unsynced_74 : decode cX4_unsynced 74 = .ok (.iload 5, 2) := by decide +kernel
theorem dX4_unsynced_76 : decode cX4_unsynced 76 = .ok (.iconst 0, 1) := by decide +kernel
theorem dX4_unsynced_77 : decode cX4_unsynced 77 = .ok (.invokestatic 49, 3) := by decide +kernel
theorem dX4_unsynced_80 : decode cX4_unsynced 80 = .ok (.iaload, 1) := by decide +kernel
theorem dX4_unsynced_81 : decode cX4_unsynced 81 = .ok (.aload_n 0, 1) := by decide +kernel
theorem dX4_unsynced_82 : decode cX4_unsynced 82 = .ok (.iload_n 3, 1) := by decide +kernel
theorem dX4_unsynced_83 : decode cX4_unsynced 83 = .ok (.iconst 0, 1) := by decide +kernel
theorem dX4_unsynced_84 : decode cX4_unsynced 84 = .ok (.invokevirtual 78, 3) := by decide +kernel
theorem dX4_unsynced_87 : decode cX4_unsynced 87 = .ok (.if_icmp .ne 28, 3) := by decide +kernel
theorem dX4_unsynced_90 : decode cX4_unsynced 90 = .ok (.aload_n 0, 1) := by decide +kernel
theorem dX4_unsynced_91 : decode cX4_unsynced 91 = .ok (.getfield 16, 3) := by decide +kernel
theorem dX4_unsynced_94 : decode cX4_unsynced 94 = .ok (.iload_n 3, 1) := by decide +kernel
theorem dX4_unsynced_95 : decode cX4_unsynced 95 = .ok (.iload 5, 2) := by decide +kernel
theorem dX4_unsynced_97 : decode cX4_unsynced 97 = .ok (.iconst 1, 1) := by decide +kernel
theorem dX4_unsynced_98 : decode cX4_unsynced 98 = .ok (.invokestatic 49, 3) := by decide +kernel
theorem dX4_unsynced_101 : decode cX4_unsynced 101 = .ok (.iaload, 1) := by decide +kernel
theorem dX4_unsynced_102 : decode cX4_unsynced 102 = .ok (.aload_n 0, 1) := by decide +kernel
theorem dX4_unsynced_103 : decode cX4_unsynced 103 = .ok (.iload_n 3, 1) := by decide +kernel
theorem dX4_unsynced_104 : decode cX4_unsynced 104 = .ok (.iconst 1, 1) := by decide +kernel
theorem dX4_unsynced_105 : decode cX4_unsynced 105 = .ok (.invokevirtual 78, 3) := by decide +kernel
theorem dX4_unsynced_108 : decode cX4_unsynced 108 = .ok (.if_icmp .ne 7, 3) := by decide +kernel
theorem dX4_unsynced_111 : decode cX4_unsynced 111 = .ok (.iconst 1, 1) := by decide +kernel
theorem dX4_unsynced_112 : decode cX4_unsynced 112 = .ok (.goto 4, 3) := by decide +kernel
theorem dX4_unsynced_115 : decode cX4_unsynced 115 = .ok (.iconst 0, 1) := by decide +kernel
theorem dX4_unsynced_116 : decode cX4_unsynced 116 = .ok (.istore 4, 2) := by decide +kernel
theorem dX4_unsynced_118 : decode cX4_unsynced 118 = .ok (.iinc 5 1, 3) := by decide +kernel
theorem dX4_unsynced_121 : decode cX4_unsynced 121 = .ok (.goto (-82), 3) := by decide +kernel
theorem dX4_unsynced_124 : decode cX4_unsynced 124 = .ok (.iload_n 2, 1) := by decide +kernel
theorem dX4_unsynced_125 : decode cX4_unsynced 125 = .ok (.aload_n 0, 1) := by decide +kernel
theorem dX4_unsynced_126 : decode cX4_unsynced 126 = .ok (.getfield 7, 3) := by decide +kernel
theorem dX4_unsynced_129 : decode cX4_unsynced 129 = .ok (.iload_n 3, 1) := by decide +kernel
theorem dX4_unsynced_130 : decode cX4_unsynced 130 = .ok (.iaload, 1) := by decide +kernel
theorem dX4_unsynced_131 : decode cX4_unsynced 131 = .ok (.iload_n 1, 1) := by decide +kernel
theorem dX4_unsynced_132 : decode cX4_unsynced 132 = .ok (.if_icmp .ne 12, 3) := by decide +kernel
theorem dX4_unsynced_135 : decode cX4_unsynced 135 = .ok (.iload 4, 2) := by decide +kernel
theorem dX4_unsynced_137 : decode cX4_unsynced 137 = .ok (.ifCond .ne 7, 3) := by decide +kernel
theorem dX4_unsynced_140 : decode cX4_unsynced 140 = .ok (.iconst 1, 1) := by decide +kernel
theorem dX4_unsynced_141 : decode cX4_unsynced 141 = .ok (.goto 4, 3) := by decide +kernel
theorem dX4_unsynced_144 : decode cX4_unsynced 144 = .ok (.iconst 0, 1) := by decide +kernel
theorem dX4_unsynced_145 : decode cX4_unsynced 145 = .ok (.iadd, 1) := by decide +kernel
theorem dX4_unsynced_146 : decode cX4_unsynced 146 = .ok (.istore_n 2, 1) := by decide +kernel
theorem dX4_unsynced_147 : decode cX4_unsynced 147 = .ok (.iinc 3 1, 3) := by decide +kernel
theorem dX4_unsynced_150 : decode cX4_unsynced 150 = .ok (.goto (-125), 3) := by decide +kernel
theorem dX4_unsynced_153 : decode cX4_unsynced 153 = .ok (.iload_n 2, 1) := by decide +kernel
theorem dX4_unsynced_154 : decode cX4_unsynced 154 = .ok (.ireturn, 1) := by decide +kernel
set_option maxRecDepth 20000 in
theorem ggX4_groupOf_X4_has : GoodIn wsX4_groupOf wsX4_has := goodIn_r _ [6] (by decide +kernel) (by decide +kernel)
set_option maxRecDepth 20000 in
theorem gX4_groupOf_X4_has : GoodIn wsX4_groupOf (va_wsS RX4 67 yX4_has wsX4_has) := goodIn_app (goodIn_of _ (by decide +kernel)) ggX4_groupOf_X4_has
theorem dX4_groupOf_0 : decode cX4_groupOf 0 = .ok (.iconst 1, 1) := by decide +kernel
theorem dX4_groupOf_1 : decode cX4_groupOf 1 = .ok (.iload_n 1, 1) := by decide +kernel
theorem dX4_groupOf_2 : decode cX4_groupOf 2 = .ok (.ishl, 1) := by decide +kernel
theorem dX4_groupOf_3 : decode cX4_groupOf 3 = .ok (.istore_n 2, 1) := by decide +kernel
theorem dX4_groupOf_4 : decode cX4_groupOf 4 = .ok (.iconst 0, 1) := by decide +kernel
theorem dX4_groupOf_5 : decode cX4_groupOf 5 = .ok (.istore_n 3, 1) := by decide +kernel
theorem dX4_groupOf_6 : decode cX4_groupOf 6 = .ok (.iload_n 2, 1) := by decide +kernel
theorem dX4_groupOf_7 : decode cX4_groupOf 7 = .ok (.iload_n 3, 1) := by decide +kernel
theorem dX4_groupOf_8 : decode cX4_groupOf 8 = .ok (.if_icmp .eq 49, 3) := by decide +kernel
theorem dX4_groupOf_11 : decode cX4_groupOf 11 = .ok (.iload_n 2, 1) := by decide +kernel
theorem dX4_groupOf_12 : decode cX4_groupOf 12 = .ok (.istore_n 3, 1) := by decide +kernel
theorem dX4_groupOf_13 : decode cX4_groupOf 13 = .ok (.iconst 0, 1) := by decide +kernel
theorem dX4_groupOf_14 : decode cX4_groupOf 14 = .ok (.istore 4, 2) := by decide +kernel
theorem dX4_groupOf_16 : decode cX4_groupOf 16 = .ok (.iload 4, 2) := by decide +kernel
theorem dX4_groupOf_18 : decode cX4_groupOf 18 = .ok (.aload_n 0, 1) := by decide +kernel
theorem dX4_groupOf_19 : decode cX4_groupOf 19 = .ok (.getfield 35, 3) := by decide +kernel
theorem dX4_groupOf_22 : decode cX4_groupOf 22 = .ok (.if_icmp .ge 32, 3) := by decide +kernel
theorem dX4_groupOf_25 : decode cX4_groupOf 25 = .ok (.iload_n 2, 1) := by decide +kernel
theorem dX4_groupOf_26 : decode cX4_groupOf 26 = .ok (.iload_n 2, 1) := by decide +kernel
theorem dX4_groupOf_27 : decode cX4_groupOf 27 = .ok (.iload 4, 2) := by decide +kernel
theorem dX4_groupOf_29 : decode cX4_groupOf 29 = .ok (.invokestatic 67, 3) := by decide +kernel
theorem dX4_groupOf_32 : decode cX4_groupOf 32 = .ok (.ifCond .eq 13, 3) := by decide +kernel
theorem dX4_groupOf_35 : decode cX4_groupOf 35 = .ok (.aload_n 0, 1) := by decide +kernel
theorem dX4_groupOf_36 : decode cX4_groupOf 36 = .ok (.getfield 19, 3) := by decide +kernel
theorem dX4_groupOf_39 : decode cX4_groupOf 39 = .ok (.iload 4, 2) := by decide +kernel
theorem dX4_groupOf_41 : decode cX4_groupOf 41 = .ok (.iaload, 1) := by decide +kernel
theorem dX4_groupOf_42 : decode cX4_groupOf 42 = .ok (.goto 4, 3) := by decide +kernel
theorem dX4_groupOf_45 : decode cX4_groupOf 45 = .ok (.iconst 0, 1) := by decide +kernel
theorem dX4_groupOf_46 : decode cX4_groupOf 46 = .ok (.ior, 1) := by decide +kernel
theorem dX4_groupOf_47 : decode cX4_groupOf 47 = .ok (.istore_n 2, 1) := by decide +kernel
theorem dX4_groupOf_48 : decode cX4_groupOf 48 = .ok (.iinc 4 1, 3) := by decide +kernel
theorem dX4_groupOf_51 : decode cX4_groupOf 51 = .ok (.goto (-35), 3) := by decide +kernel
theorem dX4_groupOf_54 : decode cX4_groupOf 54 = .ok (.goto (-48), 3) := by decide +kernel
theorem dX4_groupOf_57 : decode cX4_groupOf 57 = .ok (.iload_n 2, 1) := by decide +kernel
theorem dX4_groupOf_58 : decode cX4_groupOf 58 = .ok (.ireturn, 1) := by decide +kernel
set_option maxRecDepth 20000 in
theorem ggX4_link_X4_isCard : GoodIn wsX4_link wsX4_isCard := goodIn_r _ [6, 7, 8, 9, 5, 10, 26, 27, 28, 29, 30, 31, 32, 33, 34] (by decide +kernel) (by decide +kernel)
set_option maxRecDepth 20000 in
theorem gX4_link_X4_isCard : GoodIn wsX4_link (wsV RX4 60 RX4 yX4_isCard wsX4_isCard) := goodIn_app (goodIn_of _ (by decide +kernel)) ggX4_link_X4_isCard
set_option maxRecDepth 20000 in
theorem ggX4_link_X4_has : GoodIn wsX4_link wsX4_has := goodIn_r _ [13] (by decide +kernel) (by decide +kernel)
set_option maxRecDepth 20000 in
theorem gX4_link_X4_has : GoodIn wsX4_link (va_wsS RX4 67 yX4_has wsX4_has) := goodIn_app (goodIn_of _ (by decide +kernel)) ggX4_link_X4_has
set_option maxRecDepth 20000 in
theorem ggX4_link_X4_isFine : GoodIn wsX4_link wsX4_isFine := goodIn_r _ [17, 18, 26, 27, 28, 29, 30, 31, 32, 33, 34] (by decide +kernel) (by decide +kernel)
set_option maxRecDepth 20000 in
theorem gX4_link_X4_isFine : GoodIn wsX4_link (wsV RX4 46 RX4 yX4_isFine wsX4_isFine) := goodIn_app (goodIn_of _ (by decide +kernel)) ggX4_link_X4_isFine
set_option maxRecDepth 20000 in
theorem ggX4_link_X4_groupOf : GoodIn wsX4_link wsX4_groupOf := goodIn_r _ [22, 7, 1, 11, 12, 5, 13, 26, 27, 28, 29, 30, 31, 32, 33, 34] (by decide +kernel) (by decide +kernel)
set_option maxRecDepth 20000 in
theorem gX4_link_X4_groupOf : GoodIn wsX4_link (wsV RX4 86 RX4 yX4_groupOf wsX4_groupOf) := goodIn_app (goodIn_of _ (by decide +kernel)) ggX4_link_X4_groupOf
set_option maxRecDepth 20000 in
theorem ggX4_link_X4_count : GoodIn wsX4_link wsX4_count := goodIn_r _ [25] (by decide +kernel) (by decide +kernel)
set_option maxRecDepth 20000 in
theorem gX4_link_X4_count : GoodIn wsX4_link (va_wsS RX4 89 yX4_count wsX4_count) := goodIn_app (goodIn_of _ (by decide +kernel)) ggX4_link_X4_count
theorem dX4_link_0 : decode cX4_link 0 = .ok (.aload_n 0, 1) := by decide +kernel
theorem dX4_link_1 : decode cX4_link 1 = .ok (.iload_n 1, 1) := by decide +kernel
theorem dX4_link_2 : decode cX4_link 2 = .ok (.invokevirtual 60, 3) := by decide +kernel
theorem dX4_link_5 : decode cX4_link 5 = .ok (.ifCond .eq 15, 3) := by decide +kernel
theorem dX4_link_8 : decode cX4_link 8 = .ok (.aload_n 0, 1) := by decide +kernel
theorem dX4_link_9 : decode cX4_link 9 = .ok (.iload_n 2, 1) := by decide +kernel
theorem dX4_link_10 : decode cX4_link 10 = .ok (.invokevirtual 60, 3) := by decide +kernel
theorem dX4_link_13 : decode cX4_link 13 = .ok (.ifCond .eq 7, 3) := by decide +kernel
theorem dX4_link_16 : decode cX4_link 16 = .ok (.iconst 1, 1) := by decide +kernel
theorem dX4_link_17 : decode cX4_link 17 = .ok (.goto 4, 3) := by decide +kernel
theorem dX4_link_20 : decode cX4_link 20 = .ok (.iconst 0, 1) := by decide +kernel
theorem dX4_link_21 : decode cX4_link 21 = .ok (.istore_n 3, 1) := by decide +kernel
theorem dX4_link_22 : decode cX4_link 22 = .ok (.aload_n 0, 1) := by decide +kernel
theorem dX4_link_23 : decode cX4_link 23 = .ok (.iload_n 3, 1) := by decide +kernel
theorem dX4_link_24 : decode cX4_link 24 = .ok (.ifCond .ne 7, 3) := by decide +kernel
theorem dX4_link_27 : decode cX4_link 27 = .ok (.iconst 1, 1) := by decide +kernel
theorem dX4_link_28 : decode cX4_link 28 = .ok (.goto 30, 3) := by decide +kernel
theorem dX4_link_31 : decode cX4_link 31 = .ok (.iload_n 1, 1) := by decide +kernel
theorem dX4_link_32 : decode cX4_link 32 = .ok (.iload_n 2, 1) := by decide +kernel
theorem dX4_link_33 : decode cX4_link 33 = .ok (.if_icmp .ne 7, 3) := by decide +kernel
theorem dX4_link_36 : decode cX4_link 36 = .ok (.iconst 2, 1) := by decide +kernel
theorem dX4_link_37 : decode cX4_link 37 = .ok (.goto 21, 3) := by decide +kernel
theorem dX4_link_40 : decode cX4_link 40 = .ok (.aload_n 0, 1) := by decide +kernel
theorem dX4_link_41 : decode cX4_link 41 = .ok (.getfield 19, 3) := by decide +kernel
theorem dX4_link_44 : decode cX4_link 44 = .ok (.iload_n 1, 1) := by decide +kernel
theorem dX4_link_45 : decode cX4_link 45 = .ok (.iaload, 1) := by decide +kernel
theorem dX4_link_46 : decode cX4_link 46 = .ok (.iload_n 2, 1) := by decide +kernel
theorem dX4_link_47 : decode cX4_link 47 = .ok (.invokestatic 67, 3) := by decide +kernel
theorem dX4_link_50 : decode cX4_link 50 = .ok (.ifCond .eq 7, 3) := by decide +kernel
theorem dX4_link_53 : decode cX4_link 53 = .ok (.iconst 3, 1) := by decide +kernel
theorem dX4_link_54 : decode cX4_link 54 = .ok (.goto 4, 3) := by decide +kernel
theorem dX4_link_57 : decode cX4_link 57 = .ok (.iconst 0, 1) := by decide +kernel
theorem dX4_link_58 : decode cX4_link 58 = .ok (.invokevirtual 46, 3) := by decide +kernel
theorem dX4_link_61 : decode cX4_link 61 = .ok (.ifCond .ne 5, 3) := by decide +kernel
theorem dX4_link_64 : decode cX4_link 64 = .ok (.iconst 0, 1) := by decide +kernel
theorem dX4_link_65 : decode cX4_link 65 = .ok (.ireturn, 1) := by decide +kernel
theorem dX4_link_66 : decode cX4_link 66 = .ok (.aload_n 0, 1) := by decide +kernel
theorem dX4_link_67 : decode cX4_link 67 = .ok (.getfield 19, 3) := by decide +kernel
theorem dX4_link_70 : decode cX4_link 70 = .ok (.iload_n 1, 1) := by decide +kernel
theorem dX4_link_71 : decode cX4_link 71 = .ok (.dup2, 1) := by decide +kernel
theorem dX4_link_72 : decode cX4_link 72 = .ok (.iaload, 1) := by decide +kernel
theorem dX4_link_73 : decode cX4_link 73 = .ok (.iconst 1, 1) := by decide +kernel
theorem dX4_link_74 : decode cX4_link 74 = .ok (.iload_n 2, 1) := by decide +kernel
theorem dX4_link_75 : decode cX4_link 75 = .ok (.ishl, 1) := by decide +kernel
theorem dX4_link_76 : decode cX4_link 76 = .ok (.ior, 1) := by decide +kernel
theorem dX4_link_77 : decode cX4_link 77 = .ok (.iastore, 1) := by decide +kernel
theorem dX4_link_78 : decode cX4_link 78 = .ok (.aload_n 0, 1) := by decide +kernel
theorem dX4_link_79 : decode cX4_link 79 = .ok (.getfield 19, 3) := by decide +kernel
theorem dX4_link_82 : decode cX4_link 82 = .ok (.iload_n 2, 1) := by decide +kernel
theorem dX4_link_83 : decode cX4_link 83 = .ok (.dup2, 1) := by decide +kernel
theorem dX4_link_84 : decode cX4_link 84 = .ok (.iaload, 1) := by decide +kernel
theorem dX4_link_85 : decode cX4_link 85 = .ok (.iconst 1, 1) := by decide +kernel
theorem dX4_link_86 : decode cX4_link 86 = .ok (.iload_n 1, 1) := by decide +kernel
theorem dX4_link_87 : decode cX4_link 87 = .ok (.ishl, 1) := by decide +kernel
theorem dX4_link_88 : decode cX4_link 88 = .ok (.ior, 1) := by decide +kernel
theorem dX4_link_89 : decode cX4_link 89 = .ok (.iastore, 1) := by decide +kernel
theorem dX4_link_90 : decode cX4_link 90 = .ok (.aload_n 0, 1) := by decide +kernel
theorem dX4_link_91 : decode cX4_link 91 = .ok (.iload_n 1, 1) := by decide +kernel
theorem dX4_link_92 : decode cX4_link 92 = .ok (.invokevirtual 86, 3) := by decide +kernel
theorem dX4_link_95 : decode cX4_link 95 = .ok (.invokestatic 89, 3) := by decide +kernel
theorem dX4_link_98 : decode cX4_link 98 = .ok (.ireturn, 1) := by decide +kernel
set_option maxRecDepth 20000 in
theorem ggX4_cut_X4_isCard : GoodIn wsX4_cut wsX4_isCard := goodIn_r _ [6, 7, 8, 9, 5, 10, 23, 24, 25, 26, 27, 28, 29, 30, 31] (by decide +kernel) (by decide +kernel)
set_option maxRecDepth 20000 in
theorem gX4_cut_X4_isCard : GoodIn wsX4_cut (wsV RX4 60 RX4 yX4_isCard wsX4_isCard) := goodIn_app (goodIn_of _ (by decide +kernel)) ggX4_cut_X4_isCard
set_option maxRecDepth 20000 in
theorem ggX4_cut_X4_has : GoodIn wsX4_cut wsX4_has := goodIn_r _ [13] (by decide +kernel) (by decide +kernel)
set_option maxRecDepth 20000 in
theorem gX4_cut_X4_has : GoodIn wsX4_cut (va_wsS RX4 67 yX4_has wsX4_has) := goodIn_app (goodIn_of _ (by decide +kernel)) ggX4_cut_X4_has
set_option maxRecDepth 20000 in
theorem ggX4_cut_X4_isFine : GoodIn wsX4_cut wsX4_isFine := goodIn_r _ [17, 18, 23, 24, 25, 26, 27, 28, 29, 30, 31] (by decide +kernel) (by decide +kernel)
set_option maxRecDepth 20000 in
theorem gX4_cut_X4_isFine : GoodIn wsX4_cut (wsV RX4 46 RX4 yX4_isFine wsX4_isFine) := goodIn_app (goodIn_of _ (by decide +kernel)) ggX4_cut_X4_isFine
set_option maxRecDepth 20000 in
theorem ggX4_cut_X4_groupOf : GoodIn wsX4_cut wsX4_groupOf := goodIn_r _ [22, 7, 1, 11, 12, 5, 13, 23, 24, 25, 26, 27, 28, 29, 30, 31] (by decide +kernel) (by decide +kernel)
set_option maxRecDepth 20000 in
theorem gX4_cut_X4_groupOf : GoodIn wsX4_cut (wsV RX4 86 RX4 yX4_groupOf wsX4_groupOf) := goodIn_app (goodIn_of _ (by decide +kernel)) ggX4_cut_X4_groupOf
theorem dX4_cut_0 : decode cX4_cut 0 = .ok (.aload_n 0, 1) := by decide +kernel
theorem dX4_cut_1 : decode cX4_cut 1 = .ok (.iload_n 1, 1) := by decide +kernel
theorem dX4_cut_2 : decode cX4_cut 2 = .ok (.invokevirtual 60, 3) := by decide +kernel
theorem dX4_cut_5 : decode cX4_cut 5 = .ok (.ifCond .eq 15, 3) := by decide +kernel
theorem dX4_cut_8 : decode cX4_cut 8 = .ok (.aload_n 0, 1) := by decide +kernel
theorem dX4_cut_9 : decode cX4_cut 9 = .ok (.iload_n 2, 1) := by decide +kernel
theorem dX4_cut_10 : decode cX4_cut 10 = .ok (.invokevirtual 60, 3) := by decide +kernel
theorem dX4_cut_13 : decode cX4_cut 13 = .ok (.ifCond .eq 7, 3) := by decide +kernel
theorem dX4_cut_16 : decode cX4_cut 16 = .ok (.iconst 1, 1) := by decide +kernel
theorem dX4_cut_17 : decode cX4_cut 17 = .ok (.goto 4, 3) := by decide +kernel
theorem dX4_cut_20 : decode cX4_cut 20 = .ok (.iconst 0, 1) := by decide +kernel
theorem dX4_cut_21 : decode cX4_cut 21 = .ok (.istore_n 3, 1) := by decide +kernel
theorem dX4_cut_22 : decode cX4_cut 22 = .ok (.aload_n 0, 1) := by decide +kernel
theorem dX4_cut_23 : decode cX4_cut 23 = .ok (.iload_n 3, 1) := by decide +kernel
theorem dX4_cut_24 : decode cX4_cut 24 = .ok (.ifCond .ne 7, 3) := by decide +kernel
theorem dX4_cut_27 : decode cX4_cut 27 = .ok (.iconst 1, 1) := by decide +kernel
theorem dX4_cut_28 : decode cX4_cut 28 = .ok (.goto 21, 3) := by decide +kernel
theorem dX4_cut_31 : decode cX4_cut 31 = .ok (.aload_n 0, 1) := by decide +kernel
theorem dX4_cut_32 : decode cX4_cut 32 = .ok (.getfield 19, 3) := by decide +kernel
theorem dX4_cut_35 : decode cX4_cut 35 = .ok (.iload_n 1, 1) := by decide +kernel
theorem dX4_cut_36 : decode cX4_cut 36 = .ok (.iaload, 1) := by decide +kernel
theorem dX4_cut_37 : decode cX4_cut 37 = .ok (.iload_n 2, 1) := by decide +kernel
theorem dX4_cut_38 : decode cX4_cut 38 = .ok (.invokestatic 67, 3) := by decide +kernel
theorem dX4_cut_41 : decode cX4_cut 41 = .ok (.ifCond .ne 7, 3) := by decide +kernel
theorem dX4_cut_44 : decode cX4_cut 44 = .ok (.iconst 2, 1) := by decide +kernel
theorem dX4_cut_45 : decode cX4_cut 45 = .ok (.goto 4, 3) := by decide +kernel
theorem dX4_cut_48 : decode cX4_cut 48 = .ok (.iconst 0, 1) := by decide +kernel
theorem dX4_cut_49 : decode cX4_cut 49 = .ok (.invokevirtual 46, 3) := by decide +kernel
theorem dX4_cut_52 : decode cX4_cut 52 = .ok (.ifCond .ne 5, 3) := by decide +kernel
theorem dX4_cut_55 : decode cX4_cut 55 = .ok (.iconst 0, 1) := by decide +kernel
theorem dX4_cut_56 : decode cX4_cut 56 = .ok (.ireturn, 1) := by decide +kernel
theorem dX4_cut_57 : decode cX4_cut 57 = .ok (.aload_n 0, 1) := by decide +kernel
theorem dX4_cut_58 : decode cX4_cut 58 = .ok (.getfield 19, 3) := by decide +kernel
theorem dX4_cut_61 : decode cX4_cut 61 = .ok (.iload_n 1, 1) := by decide +kernel
theorem dX4_cut_62 : decode cX4_cut 62 = .ok (.dup2, 1) := by decide +kernel
theorem dX4_cut_63 : decode cX4_cut 63 = .ok (.iaload, 1) := by decide +kernel
theorem dX4_cut_64 : decode cX4_cut 64 = .ok (.iconst 1, 1) := by decide +kernel
theorem dX4_cut_65 : decode cX4_cut 65 = .ok (.iload_n 2, 1) := by decide +kernel
theorem dX4_cut_66 : decode cX4_cut 66 = .ok (.ishl, 1) := by decide +kernel
theorem dX4_cut_67 : decode cX4_cut 67 = .ok (.iconst (-1), 1) := by decide +kernel
theorem dX4_cut_68 : decode cX4_cut 68 = .ok (.ixor, 1) := by decide +kernel
theorem dX4_cut_69 : decode cX4_cut 69 = .ok (.iand, 1) := by decide +kernel
theorem dX4_cut_70 : decode cX4_cut 70 = .ok (.iastore, 1) := by decide +kernel
theorem dX4_cut_71 : decode cX4_cut 71 = .ok (.aload_n 0, 1) := by decide +kernel
theorem dX4_cut_72 : decode cX4_cut 72 = .ok (.getfield 19, 3) := by decide +kernel
theorem dX4_cut_75 : decode cX4_cut 75 = .ok (.iload_n 2, 1) := by decide +kernel
theorem dX4_cut_76 : decode cX4_cut 76 = .ok (.dup2, 1) := by decide +kernel
theorem dX4_cut_77 : decode cX4_cut 77 = .ok (.iaload, 1) := by decide +kernel
theorem dX4_cut_78 : decode cX4_cut 78 = .ok (.iconst 1, 1) := by decide +kernel
theorem dX4_cut_79 : decode cX4_cut 79 = .ok (.iload_n 1, 1) := by decide +kernel
theorem dX4_cut_80 : decode cX4_cut 80 = .ok (.ishl, 1) := by decide +kernel
theorem dX4_cut_81 : decode cX4_cut 81 = .ok (.iconst (-1), 1) := by decide +kernel
theorem dX4_cut_82 : decode cX4_cut 82 = .ok (.ixor, 1) := by decide +kernel
theorem dX4_cut_83 : decode cX4_cut 83 = .ok (.iand, 1) := by decide +kernel
theorem dX4_cut_84 : decode cX4_cut 84 = .ok (.iastore, 1) := by decide +kernel
theorem dX4_cut_85 : decode cX4_cut 85 = .ok (.aload_n 0, 1) := by decide +kernel
theorem dX4_cut_86 : decode cX4_cut 86 = .ok (.iload_n 1, 1) := by decide +kernel
theorem dX4_cut_87 : decode cX4_cut 87 = .ok (.invokevirtual 86, 3) := by decide +kernel
theorem dX4_cut_90 : decode cX4_cut 90 = .ok (.iload_n 2, 1) := by decide +kernel
theorem dX4_cut_91 : decode cX4_cut 91 = .ok (.invokestatic 67, 3) := by decide +kernel
theorem dX4_cut_94 : decode cX4_cut 94 = .ok (.ireturn, 1) := by decide +kernel
set_option maxRecDepth 20000 in
theorem ggX4_group_X4_isCard : GoodIn wsX4_group wsX4_isCard := goodIn_r _ [5, 6, 7, 8, 4, 9, 23, 24, 25, 26, 27, 28, 29, 30, 31] (by decide +kernel) (by decide +kernel)
set_option maxRecDepth 20000 in
theorem gX4_group_X4_isCard : GoodIn wsX4_group (wsV RX4 60 RX4 yX4_isCard wsX4_isCard) := goodIn_app (goodIn_of _ (by decide +kernel)) ggX4_group_X4_isCard
set_option maxRecDepth 20000 in
theorem ggX4_group_X4_isFine : GoodIn wsX4_group wsX4_isFine := goodIn_r _ [13, 14, 23, 24, 25, 26, 27, 28, 29, 30, 31] (by decide +kernel) (by decide +kernel)
set_option maxRecDepth 20000 in
theorem gX4_group_X4_isFine : GoodIn wsX4_group (wsV RX4 46 RX4 yX4_isFine wsX4_isFine) := goodIn_app (goodIn_of _ (by decide +kernel)) ggX4_group_X4_isFine
set_option maxRecDepth 20000 in
theorem ggX4_group_X4_groupOf : GoodIn wsX4_group wsX4_groupOf := goodIn_r _ [18, 6, 19, 20, 21, 4, 22, 23, 24, 25, 26, 27, 28, 29, 30, 31] (by decide +kernel) (by decide +kernel)
set_option maxRecDepth 20000 in
theorem gX4_group_X4_groupOf : GoodIn wsX4_group (wsV RX4 86 RX4 yX4_groupOf wsX4_groupOf) := goodIn_app (goodIn_of _ (by decide +kernel)) ggX4_group_X4_groupOf
theorem dX4_group_0 : decode cX4_group 0 = .ok (.aload_n 0, 1) := by decide +kernel
theorem dX4_group_1 : decode cX4_group 1 = .ok (.aload_n 0, 1) := by decide +kernel
theorem dX4_group_2 : decode cX4_group 2 = .ok (.iload_n 1, 1) := by decide +kernel
theorem dX4_group_3 : decode cX4_group 3 = .ok (.invokevirtual 60, 3) := by decide +kernel
theorem dX4_group_6 : decode cX4_group 6 = .ok (.ifCond .eq 7, 3) := by decide +kernel
theorem dX4_group_9 : decode cX4_group 9 = .ok (.iconst 0, 1) := by decide +kernel
theorem dX4_group_10 : decode cX4_group 10 = .ok (.goto 4, 3) := by decide +kernel
theorem dX4_group_13 : decode cX4_group 13 = .ok (.iconst 1, 1) := by decide +kernel
theorem dX4_group_14 : decode cX4_group 14 = .ok (.invokevirtual 46, 3) := by decide +kernel
theorem dX4_group_17 : decode cX4_group 17 = .ok (.ifCond .eq 11, 3) := by decide +kernel
theorem dX4_group_20 : decode cX4_group 20 = .ok (.aload_n 0, 1) := by decide +kernel
theorem dX4_group_21 : decode cX4_group 21 = .ok (.iload_n 1, 1) := by decide +kernel
theorem dX4_group_22 : decode cX4_group 22 = .ok (.invokevirtual 86, 3) := by decide +kernel
theorem dX4_group_25 : decode cX4_group 25 = .ok (.goto 4, 3) := by decide +kernel
theorem dX4_group_28 : decode cX4_group 28 = .ok (.iconst 0, 1) := by decide +kernel
theorem dX4_group_29 : decode cX4_group 29 = .ok (.ireturn, 1) := by decide +kernel
set_option maxRecDepth 20000 in
theorem ggX4_groups_X4_groupOf : GoodIn wsX4_groups wsX4_groupOf := goodIn_r _ [7, 2, 8, 9, 10, 6, 11, 12, 13, 14, 15, 16, 17, 18, 19, 20] (by decide +kernel) (by decide +kernel)
set_option maxRecDepth 20000 in
theorem gX4_groups_X4_groupOf : GoodIn wsX4_groups (wsV RX4 86 RX4 yX4_groupOf wsX4_groupOf) := goodIn_app (goodIn_of _ (by decide +kernel)) ggX4_groups_X4_groupOf
theorem dX4_groups_0 : decode cX4_groups 0 = .ok (.aload_n 0, 1) := by decide +kernel
theorem dX4_groups_1 : decode cX4_groups 1 = .ok (.iconst 0, 1) := by decide +kernel
theorem dX4_groups_2 : decode cX4_groups 2 = .ok (.putfield 31, 3) := by decide +kernel
theorem dX4_groups_5 : decode cX4_groups 5 = .ok (.iconst 0, 1) := by decide +kernel
theorem dX4_groups_6 : decode cX4_groups 6 = .ok (.istore_n 1, 1) := by decide +kernel
theorem dX4_groups_7 : decode cX4_groups 7 = .ok (.iconst 0, 1) := by decide +kernel
theorem dX4_groups_8 : decode cX4_groups 8 = .ok (.istore_n 2, 1) := by decide +kernel
theorem dX4_groups_9 : decode cX4_groups 9 = .ok (.iload_n 2, 1) := by decide +kernel
theorem dX4_groups_10 : decode cX4_groups 10 = .ok (.aload_n 0, 1) := by decide +kernel
theorem dX4_groups_11 : decode cX4_groups 11 = .ok (.getfield 35, 3) := by decide +kernel
theorem dX4_groups_14 : decode cX4_groups 14 = .ok (.if_icmp .ge 31, 3) := by decide +kernel
theorem dX4_groups_17 : decode cX4_groups 17 = .ok (.iload_n 1, 1) := by decide +kernel
theorem dX4_groups_18 : decode cX4_groups 18 = .ok (.aload_n 0, 1) := by decide +kernel
theorem dX4_groups_19 : decode cX4_groups 19 = .ok (.iload_n 2, 1) := by decide +kernel
theorem dX4_groups_20 : decode cX4_groups 20 = .ok (.invokevirtual 86, 3) := by decide +kernel
theorem dX4_groups_23 : decode cX4_groups 23 = .ok (.iconst 1, 1) := by decide +kernel
theorem dX4_groups_24 : decode cX4_groups 24 = .ok (.iload_n 2, 1) := by decide +kernel
theorem dX4_groups_25 : decode cX4_groups 25 = .ok (.ishl, 1) := by decide +kernel
theorem dX4_groups_26 : decode cX4_groups 26 = .ok (.iconst 1, 1) := by decide +kernel
theorem dX4_groups_27 : decode cX4_groups 27 = .ok (.isub, 1) := by decide +kernel
theorem dX4_groups_28 : decode cX4_groups 28 = .ok (.iand, 1) := by decide +kernel
theorem dX4_groups_29 : decode cX4_groups 29 = .ok (.ifCond .ne 7, 3) := by decide +kernel
theorem dX4_groups_32 : decode cX4_groups 32 = .ok (.iconst 1, 1) := by decide +kernel
theorem dX4_groups_33 : decode cX4_groups 33 = .ok (.goto 4, 3) := by decide +kernel
theorem dX4_groups_36 : decode cX4_groups 36 = .ok (.iconst 0, 1) := by decide +kernel
theorem dX4_groups_37 : decode cX4_groups 37 = .ok (.iadd, 1) := by decide +kernel
theorem dX4_groups_38 : decode cX4_groups 38 = .ok (.istore_n 1, 1) := by decide +kernel
theorem dX4_groups_39 : decode cX4_groups 39 = .ok (.iinc 2 1, 3) := by decide +kernel
theorem dX4_groups_42 : decode cX4_groups 42 = .ok (.goto (-33), 3) := by decide +kernel
theorem dX4_groups_45 : decode cX4_groups 45 = .ok (.iload_n 1, 1) := by decide +kernel
theorem dX4_groups_46 : decode cX4_groups 46 = .ok (.ireturn, 1) := by decide +kernel
set_option maxRecDepth 20000 in
theorem ggX4_preferredOf_X4_groupOf : GoodIn wsX4_preferredOf wsX4_groupOf := goodIn_r _ [7, 1, 8, 9, 10, 6, 11, 12, 13, 14, 15, 16, 17, 18, 19, 20] (by decide +kernel) (by decide +kernel)
set_option maxRecDepth 20000 in
theorem gX4_preferredOf_X4_groupOf : GoodIn wsX4_preferredOf (wsV RX4 86 RX4 yX4_groupOf wsX4_groupOf) := goodIn_app (goodIn_of _ (by decide +kernel)) ggX4_preferredOf_X4_groupOf
set_option maxRecDepth 20000 in
theorem ggX4_preferredOf_X4_has : GoodIn wsX4_preferredOf wsX4_has := goodIn_r _ [11] (by decide +kernel) (by decide +kernel)
set_option maxRecDepth 20000 in
theorem gX4_preferredOf_X4_has : GoodIn wsX4_preferredOf (va_wsS RX4 67 yX4_has wsX4_has) := goodIn_app (goodIn_of _ (by decide +kernel)) ggX4_preferredOf_X4_has
theorem dX4_preferredOf_0 : decode cX4_preferredOf 0 = .ok (.aload_n 0, 1) := by decide +kernel
theorem dX4_preferredOf_1 : decode cX4_preferredOf 1 = .ok (.iload_n 1, 1) := by decide +kernel
theorem dX4_preferredOf_2 : decode cX4_preferredOf 2 = .ok (.invokevirtual 86, 3) := by decide +kernel
theorem dX4_preferredOf_5 : decode cX4_preferredOf 5 = .ok (.istore_n 2, 1) := by decide +kernel
theorem dX4_preferredOf_6 : decode cX4_preferredOf 6 = .ok (.iload_n 1, 1) := by decide +kernel
theorem dX4_preferredOf_7 : decode cX4_preferredOf 7 = .ok (.istore_n 3, 1) := by decide +kernel
theorem dX4_preferredOf_8 : decode cX4_preferredOf 8 = .ok (.iconst 0, 1) := by decide +kernel
theorem dX4_preferredOf_9 : decode cX4_preferredOf 9 = .ok (.istore 4, 2) := by decide +kernel
theorem dX4_preferredOf_11 : decode cX4_preferredOf 11 = .ok (.iload 4, 2) := by decide +kernel
theorem dX4_preferredOf_13 : decode cX4_preferredOf 13 = .ok (.aload_n 0, 1) := by decide +kernel
theorem dX4_preferredOf_14 : decode cX4_preferredOf 14 = .ok (.getfield 35, 3) := by decide +kernel
theorem dX4_preferredOf_17 : decode cX4_preferredOf 17 = .ok (.if_icmp .ge 75, 3) := by decide +kernel
theorem dX4_preferredOf_20 : decode cX4_preferredOf 20 = .ok (.aload_n 0, 1) := by decide +kernel
theorem dX4_preferredOf_21 : decode cX4_preferredOf 21 = .ok (.getfield 7, 3) := by decide +kernel
theorem dX4_preferredOf_24 : decode cX4_preferredOf 24 = .ok (.iload 4, 2) := by decide +kernel
theorem dX4_preferredOf_26 : decode cX4_preferredOf 26 = .ok (.iaload, 1) := by decide +kernel
theorem dX4_preferredOf_27 : decode cX4_preferredOf 27 = .ok (.aload_n 0, 1) := by decide +kernel
theorem dX4_preferredOf_28 : decode cX4_preferredOf 28 = .ok (.getfield 7, 3) := by decide +kernel
theorem dX4_preferredOf_31 : decode cX4_preferredOf 31 = .ok (.iload_n 3, 1) := by decide +kernel
theorem dX4_preferredOf_32 : decode cX4_preferredOf 32 = .ok (.iaload, 1) := by decide +kernel
theorem dX4_preferredOf_33 : decode cX4_preferredOf 33 = .ok (.if_icmp .lt 25, 3) := by decide +kernel
theorem dX4_preferredOf_36 : decode cX4_preferredOf 36 = .ok (.aload_n 0, 1) := by decide +kernel
theorem dX4_preferredOf_37 : decode cX4_preferredOf 37 = .ok (.getfield 7, 3) := by decide +kernel
theorem dX4_preferredOf_40 : decode cX4_preferredOf 40 = .ok (.iload 4, 2) := by decide +kernel
theorem dX4_preferredOf_42 : decode cX4_preferredOf 42 = .ok (.iaload, 1) := by decide +kernel
theorem dX4_preferredOf_43 : decode cX4_preferredOf 43 = .ok (.aload_n 0, 1) := by decide +kernel
theorem dX4_preferredOf_44 : decode cX4_preferredOf 44 = .ok (.getfield 7, 3) := by decide +kernel
theorem dX4_preferredOf_47 : decode cX4_preferredOf 47 = .ok (.iload_n 3, 1) := by decide +kernel
theorem dX4_preferredOf_48 : decode cX4_preferredOf 48 = .ok (.iaload, 1) := by decide +kernel
theorem dX4_preferredOf_49 : decode cX4_preferredOf 49 = .ok (.if_icmp .ne 13, 3) := by decide +kernel
theorem dX4_preferredOf_52 : decode cX4_preferredOf 52 = .ok (.iload 4, 2) := by decide +kernel
theorem dX4_preferredOf_54 : decode cX4_preferredOf 54 = .ok (.iload_n 3, 1) := by decide +kernel
theorem dX4_preferredOf_55 : decode cX4_preferredOf 55 = .ok (.if_icmp .ge 7, 3) := by decide +kernel
theorem dX4_preferredOf_58 : decode cX4_preferredOf 58 = .ok (.iconst 1, 1) := by decide +kernel
theorem dX4_preferredOf_59 : decode cX4_preferredOf 59 = .ok (.goto 4, 3) := by decide +kernel
theorem dX4_preferredOf_62 : decode cX4_preferredOf 62 = .ok (.iconst 0, 1) := by decide +kernel
theorem dX4_preferredOf_63 : decode cX4_preferredOf 63 = .ok (.istore 5, 2) := by decide +kernel
theorem dX4_preferredOf_65 : decode cX4_preferredOf 65 = .ok (.iload_n 2, 1) := by decide +kernel
theorem dX4_preferredOf_66 : decode cX4_preferredOf 66 = .ok (.iload 4, 2) := by decide +kernel
theorem dX4_preferredOf_68 : decode cX4_preferredOf 68 = .ok (.invokestatic 67, 3) := by decide +kernel
theorem dX4_preferredOf_71 : decode cX4_preferredOf 71 = .ok (.ifCond .eq 13, 3) := by decide +kernel
theorem dX4_preferredOf_74 : decode cX4_preferredOf 74 = .ok (.iload 5, 2) := by decide +kernel
theorem dX4_preferredOf_76 : decode cX4_preferredOf 76 = .ok (.ifCond .eq 8, 3) := by decide +kernel
theorem dX4_preferredOf_79 : decode cX4_preferredOf 79 = .ok (.iload 4, 2) := by decide +kernel
theorem dX4_preferredOf_81 : decode cX4_preferredOf 81 = .ok (.goto 4, 3) := by decide +kernel
theorem dX4_preferredOf_84 : decode cX4_preferredOf 84 = .ok (.iload_n 3, 1) := by decide +kernel
theorem dX4_preferredOf_85 : decode cX4_preferredOf 85 = .ok (.istore_n 3, 1) := by decide +kernel
theorem dX4_preferredOf_86 : decode cX4_preferredOf 86 = .ok (.iinc 4 1, 3) := by decide +kernel
theorem dX4_preferredOf_89 : decode cX4_preferredOf 89 = .ok (.goto (-78), 3) := by decide +kernel
theorem dX4_preferredOf_92 : decode cX4_preferredOf 92 = .ok (.iload_n 3, 1) := by decide +kernel
theorem dX4_preferredOf_93 : decode cX4_preferredOf 93 = .ok (.ireturn, 1) := by decide +kernel
set_option maxRecDepth 20000 in
theorem ggX4_preferred_X4_isCard : GoodIn wsX4_preferred wsX4_isCard := goodIn_r _ [5, 6, 7, 8, 4, 9, 28, 29, 30, 31, 32, 33, 34, 35, 36] (by decide +kernel) (by decide +kernel)
set_option maxRecDepth 20000 in
theorem gX4_preferred_X4_isCard : GoodIn wsX4_preferred (wsV RX4 60 RX4 yX4_isCard wsX4_isCard) := goodIn_app (goodIn_of _ (by decide +kernel)) ggX4_preferred_X4_isCard
set_option maxRecDepth 20000 in
theorem ggX4_preferred_X4_isFine : GoodIn wsX4_preferred wsX4_isFine := goodIn_r _ [13, 14, 28, 29, 30, 31, 32, 33, 34, 35, 36] (by decide +kernel) (by decide +kernel)
set_option maxRecDepth 20000 in
theorem gX4_preferred_X4_isFine : GoodIn wsX4_preferred (wsV RX4 46 RX4 yX4_isFine wsX4_isFine) := goodIn_app (goodIn_of _ (by decide +kernel)) ggX4_preferred_X4_isFine
set_option maxRecDepth 20000 in
theorem ggX4_preferred_X4_preferredOf : GoodIn wsX4_preferred wsX4_preferredOf := goodIn_r _ [18, 6, 19, 20, 21, 22, 4, 23, 24, 25, 26, 27, 28, 29, 30, 31, 32, 33, 34, 35, 36] (by decide +kernel) (by decide +kernel)
set_option maxRecDepth 20000 in
theorem gX4_preferred_X4_preferredOf : GoodIn wsX4_preferred (wsV RX4 92 RX4 yX4_preferredOf wsX4_preferredOf) := goodIn_app (goodIn_of _ (by decide +kernel)) ggX4_preferred_X4_preferredOf
theorem dX4_preferred_0 : decode cX4_preferred 0 = .ok (.aload_n 0, 1) := by decide +kernel
theorem dX4_preferred_1 : decode cX4_preferred 1 = .ok (.aload_n 0, 1) := by decide +kernel
theorem dX4_preferred_2 : decode cX4_preferred 2 = .ok (.iload_n 1, 1) := by decide +kernel
theorem dX4_preferred_3 : decode cX4_preferred 3 = .ok (.invokevirtual 60, 3) := by decide +kernel
theorem dX4_preferred_6 : decode cX4_preferred 6 = .ok (.ifCond .eq 7, 3) := by decide +kernel
theorem dX4_preferred_9 : decode cX4_preferred 9 = .ok (.iconst 0, 1) := by decide +kernel
theorem dX4_preferred_10 : decode cX4_preferred 10 = .ok (.goto 4, 3) := by decide +kernel
theorem dX4_preferred_13 : decode cX4_preferred 13 = .ok (.iconst 1, 1) := by decide +kernel
theorem dX4_preferred_14 : decode cX4_preferred 14 = .ok (.invokevirtual 46, 3) := by decide +kernel
theorem dX4_preferred_17 : decode cX4_preferred 17 = .ok (.ifCond .eq 11, 3) := by decide +kernel
theorem dX4_preferred_20 : decode cX4_preferred 20 = .ok (.aload_n 0, 1) := by decide +kernel
theorem dX4_preferred_21 : decode cX4_preferred 21 = .ok (.iload_n 1, 1) := by decide +kernel
theorem dX4_preferred_22 : decode cX4_preferred 22 = .ok (.invokevirtual 92, 3) := by decide +kernel
theorem dX4_preferred_25 : decode cX4_preferred 25 = .ok (.goto 4, 3) := by decide +kernel
theorem dX4_preferred_28 : decode cX4_preferred 28 = .ok (.iconst 0, 1) := by decide +kernel
theorem dX4_preferred_29 : decode cX4_preferred 29 = .ok (.ireturn, 1) := by decide +kernel
set_option maxRecDepth 20000 in
theorem ggX4_shownOf_X4_groupOf : GoodIn wsX4_shownOf wsX4_groupOf := goodIn_r _ [7, 1, 8, 9, 10, 6, 11, 15, 16, 17, 18, 19, 20, 21, 22, 23] (by decide +kernel) (by decide +kernel)
set_option maxRecDepth 20000 in
theorem gX4_shownOf_X4_groupOf : GoodIn wsX4_shownOf (wsV RX4 86 RX4 yX4_groupOf wsX4_groupOf) := goodIn_app (goodIn_of _ (by decide +kernel)) ggX4_shownOf_X4_groupOf
set_option maxRecDepth 20000 in
theorem ggX4_shownOf_X4_has : GoodIn wsX4_shownOf wsX4_has := goodIn_r _ [11] (by decide +kernel) (by decide +kernel)
set_option maxRecDepth 20000 in
theorem gX4_shownOf_X4_has : GoodIn wsX4_shownOf (va_wsS RX4 67 yX4_has wsX4_has) := goodIn_app (goodIn_of _ (by decide +kernel)) ggX4_shownOf_X4_has
set_option maxRecDepth 20000 in
theorem ggX4_shownOf_X4_at : GoodIn wsX4_shownOf wsX4_at := goodIn_r _ [14] (by decide +kernel) (by decide +kernel)
set_option maxRecDepth 20000 in
theorem gX4_shownOf_X4_at : GoodIn wsX4_shownOf (va_wsS RX4 49 yX4_at wsX4_at) := goodIn_app (goodIn_of _ (by decide +kernel)) ggX4_shownOf_X4_at
theorem dX4_shownOf_0 : decode cX4_shownOf 0 = .ok (.aload_n 0, 1) := by decide +kernel
theorem dX4_shownOf_1 : decode cX4_shownOf 1 = .ok (.iload_n 1, 1) := by decide +kernel
theorem dX4_shownOf_2 : decode cX4_shownOf 2 = .ok (.invokevirtual 86, 3) := by decide +kernel
theorem dX4_shownOf_5 : decode cX4_shownOf 5 = .ok (.istore_n 3, 1) := by decide +kernel
theorem dX4_shownOf_6 : decode cX4_shownOf 6 = .ok (.iconst 0, 1) := by decide +kernel
theorem dX4_shownOf_7 : decode cX4_shownOf 7 = .ok (.istore 4, 2) := by decide +kernel
theorem dX4_shownOf_9 : decode cX4_shownOf 9 = .ok (.iconst 0, 1) := by decide +kernel
theorem dX4_shownOf_10 : decode cX4_shownOf 10 = .ok (.istore 5, 2) := by decide +kernel
theorem dX4_shownOf_12 : decode cX4_shownOf 12 = .ok (.iload 5, 2) := by decide +kernel
theorem dX4_shownOf_14 : decode cX4_shownOf 14 = .ok (.aload_n 0, 1) := by decide +kernel
theorem dX4_shownOf_15 : decode cX4_shownOf 15 = .ok (.getfield 35, 3) := by decide +kernel
theorem dX4_shownOf_18 : decode cX4_shownOf 18 = .ok (.if_icmp .ge 39, 3) := by decide +kernel
theorem dX4_shownOf_21 : decode cX4_shownOf 21 = .ok (.iload 4, 2) := by decide +kernel
theorem dX4_shownOf_23 : decode cX4_shownOf 23 = .ok (.iload_n 3, 1) := by decide +kernel
theorem dX4_shownOf_24 : decode cX4_shownOf 24 = .ok (.iload 5, 2) := by decide +kernel
theorem dX4_shownOf_26 : decode cX4_shownOf 26 = .ok (.invokestatic 67, 3) := by decide +kernel
theorem dX4_shownOf_29 : decode cX4_shownOf 29 = .ok (.ifCond .eq 18, 3) := by decide +kernel
theorem dX4_shownOf_32 : decode cX4_shownOf 32 = .ok (.aload_n 0, 1) := by decide +kernel
theorem dX4_shownOf_33 : decode cX4_shownOf 33 = .ok (.getfield 16, 3) := by decide +kernel
theorem dX4_shownOf_36 : decode cX4_shownOf 36 = .ok (.iload 5, 2) := by decide +kernel
theorem dX4_shownOf_38 : decode cX4_shownOf 38 = .ok (.iconst 0, 1) := by decide +kernel
theorem dX4_shownOf_39 : decode cX4_shownOf 39 = .ok (.iload_n 2, 1) := by decide +kernel
theorem dX4_shownOf_40 : decode cX4_shownOf 40 = .ok (.invokestatic 49, 3) := by decide +kernel
theorem dX4_shownOf_43 : decode cX4_shownOf 43 = .ok (.iaload, 1) := by decide +kernel
theorem dX4_shownOf_44 : decode cX4_shownOf 44 = .ok (.goto 4, 3) := by decide +kernel
theorem dX4_shownOf_47 : decode cX4_shownOf 47 = .ok (.iconst 0, 1) := by decide +kernel
theorem dX4_shownOf_48 : decode cX4_shownOf 48 = .ok (.ior, 1) := by decide +kernel
theorem dX4_shownOf_49 : decode cX4_shownOf 49 = .ok (.istore 4, 2) := by decide +kernel
theorem dX4_shownOf_51 : decode cX4_shownOf 51 = .ok (.iinc 5 1, 3) := by decide +kernel
theorem dX4_shownOf_54 : decode cX4_shownOf 54 = .ok (.goto (-42), 3) := by decide +kernel
theorem dX4_shownOf_57 : decode cX4_shownOf 57 = .ok (.iload 4, 2) := by decide +kernel
theorem dX4_shownOf_59 : decode cX4_shownOf 59 = .ok (.ireturn, 1) := by decide +kernel
set_option maxRecDepth 20000 in
theorem ggX4_shown_X4_isCard : GoodIn wsX4_shown wsX4_isCard := goodIn_r _ [5, 6, 7, 8, 4, 9, 34, 35, 36, 37, 38, 39, 40, 41, 42] (by decide +kernel) (by decide +kernel)
set_option maxRecDepth 20000 in
theorem gX4_shown_X4_isCard : GoodIn wsX4_shown (wsV RX4 60 RX4 yX4_isCard wsX4_isCard) := goodIn_app (goodIn_of _ (by decide +kernel)) ggX4_shown_X4_isCard
set_option maxRecDepth 20000 in
theorem ggX4_shown_X4_isKind : GoodIn wsX4_shown wsX4_isKind := goodIn_r _ [12, 7, 8, 4, 9] (by decide +kernel) (by decide +kernel)
set_option maxRecDepth 20000 in
theorem gX4_shown_X4_isKind : GoodIn wsX4_shown (va_wsS RX4 57 yX4_isKind wsX4_isKind) := goodIn_app (goodIn_of _ (by decide +kernel)) ggX4_shown_X4_isKind
set_option maxRecDepth 20000 in
theorem ggX4_shown_X4_isFine : GoodIn wsX4_shown wsX4_isFine := goodIn_r _ [16, 17, 34, 35, 36, 37, 38, 39, 40, 41, 42] (by decide +kernel) (by decide +kernel)
set_option maxRecDepth 20000 in
theorem gX4_shown_X4_isFine : GoodIn wsX4_shown (wsV RX4 46 RX4 yX4_isFine wsX4_isFine) := goodIn_app (goodIn_of _ (by decide +kernel)) ggX4_shown_X4_isFine
set_option maxRecDepth 20000 in
theorem ggX4_shown_X4_shownOf : GoodIn wsX4_shown wsX4_shownOf := goodIn_r _ [21, 6, 22, 23, 24, 25, 4, 26, 27, 28, 29, 30, 31, 32, 33, 34, 35, 36, 37, 38, 39, 40, 41, 42] (by decide +kernel) (by decide +kernel)
set_option maxRecDepth 20000 in
theorem gX4_shown_X4_shownOf : GoodIn wsX4_shown (wsV RX4 95 RX4 yX4_shownOf wsX4_shownOf) := goodIn_app (goodIn_of _ (by decide +kernel)) ggX4_shown_X4_shownOf
theorem dX4_shown_0 : decode cX4_shown 0 = .ok (.aload_n 0, 1) := by decide +kernel
theorem dX4_shown_1 : decode cX4_shown 1 = .ok (.aload_n 0, 1) := by decide +kernel
theorem dX4_shown_2 : decode cX4_shown 2 = .ok (.iload_n 1, 1) := by decide +kernel
theorem dX4_shown_3 : decode cX4_shown 3 = .ok (.invokevirtual 60, 3) := by decide +kernel
theorem dX4_shown_6 : decode cX4_shown 6 = .ok (.ifCond .ne 7, 3) := by decide +kernel
theorem dX4_shown_9 : decode cX4_shown 9 = .ok (.iconst 1, 1) := by decide +kernel
theorem dX4_shown_10 : decode cX4_shown 10 = .ok (.goto 15, 3) := by decide +kernel
theorem dX4_shown_13 : decode cX4_shown 13 = .ok (.iload_n 2, 1) := by decide +kernel
theorem dX4_shown_14 : decode cX4_shown 14 = .ok (.invokestatic 57, 3) := by decide +kernel
theorem dX4_shown_17 : decode cX4_shown 17 = .ok (.ifCond .ne 7, 3) := by decide +kernel
theorem dX4_shown_20 : decode cX4_shown 20 = .ok (.iconst 2, 1) := by decide +kernel
theorem dX4_shown_21 : decode cX4_shown 21 = .ok (.goto 4, 3) := by decide +kernel
theorem dX4_shown_24 : decode cX4_shown 24 = .ok (.iconst 0, 1) := by decide +kernel
theorem dX4_shown_25 : decode cX4_shown 25 = .ok (.invokevirtual 46, 3) := by decide +kernel
theorem dX4_shown_28 : decode cX4_shown 28 = .ok (.ifCond .eq 12, 3) := by decide +kernel
theorem dX4_shown_31 : decode cX4_shown 31 = .ok (.aload_n 0, 1) := by decide +kernel
theorem dX4_shown_32 : decode cX4_shown 32 = .ok (.iload_n 1, 1) := by decide +kernel
theorem dX4_shown_33 : decode cX4_shown 33 = .ok (.iload_n 2, 1) := by decide +kernel
theorem dX4_shown_34 : decode cX4_shown 34 = .ok (.invokevirtual 95, 3) := by decide +kernel
theorem dX4_shown_37 : decode cX4_shown 37 = .ok (.goto 4, 3) := by decide +kernel
theorem dX4_shown_40 : decode cX4_shown 40 = .ok (.iconst 0, 1) := by decide +kernel
theorem dX4_shown_41 : decode cX4_shown 41 = .ok (.ireturn, 1) := by decide +kernel
set_option maxRecDepth 20000 in
theorem ggX4_edit_X4_isKind : GoodIn wsX4_edit wsX4_isKind := goodIn_r _ [6, 7, 8, 5, 9] (by decide +kernel) (by decide +kernel)
set_option maxRecDepth 20000 in
theorem gX4_edit_X4_isKind : GoodIn wsX4_edit (va_wsS RX4 57 yX4_isKind wsX4_isKind) := goodIn_app (goodIn_of _ (by decide +kernel)) ggX4_edit_X4_isKind
set_option maxRecDepth 20000 in
theorem ggX4_edit_X4_isIn : GoodIn wsX4_edit wsX4_isIn := goodIn_r _ [9] (by decide +kernel) (by decide +kernel)
set_option maxRecDepth 20000 in
theorem gX4_edit_X4_isIn : GoodIn wsX4_edit (va_wsS RX4 38 yX4_isIn wsX4_isIn) := goodIn_app (goodIn_of _ (by decide +kernel)) ggX4_edit_X4_isIn
set_option maxRecDepth 20000 in
theorem ggX4_edit_X4_isCard : GoodIn wsX4_edit wsX4_isCard := goodIn_r _ [13, 2, 7, 8, 5, 9, 48, 49, 50, 51, 52, 53, 54, 55, 56] (by decide +kernel) (by decide +kernel)
set_option maxRecDepth 20000 in
theorem gX4_edit_X4_isCard : GoodIn wsX4_edit (wsV RX4 60 RX4 yX4_isCard wsX4_isCard) := goodIn_app (goodIn_of _ (by decide +kernel)) ggX4_edit_X4_isCard
set_option maxRecDepth 20000 in
theorem ggX4_edit_X4_isFine : GoodIn wsX4_edit wsX4_isFine := goodIn_r _ [17, 18, 48, 49, 50, 51, 52, 53, 54, 55, 56] (by decide +kernel) (by decide +kernel)
set_option maxRecDepth 20000 in
theorem gX4_edit_X4_isFine : GoodIn wsX4_edit (wsV RX4 46 RX4 yX4_isFine wsX4_isFine) := goodIn_app (goodIn_of _ (by decide +kernel)) ggX4_edit_X4_isFine
set_option maxRecDepth 20000 in
theorem ggX4_edit_X4_shownOf : GoodIn wsX4_edit wsX4_shownOf := goodIn_r _ [22, 2, 1, 23, 24, 25, 5, 26, 27, 28, 29, 30, 31, 32, 33, 48, 49, 50, 51, 52, 53, 54, 55, 56] (by decide +kernel) (by decide +kernel)
set_option maxRecDepth 20000 in
theorem gX4_edit_X4_shownOf : GoodIn wsX4_edit (wsV RX4 95 RX4 yX4_shownOf wsX4_shownOf) := goodIn_app (goodIn_of _ (by decide +kernel)) ggX4_edit_X4_shownOf
set_option maxRecDepth 20000 in
theorem ggX4_edit_X4_has : GoodIn wsX4_edit wsX4_has := goodIn_r _ [30] (by decide +kernel) (by decide +kernel)
set_option maxRecDepth 20000 in
theorem gX4_edit_X4_has : GoodIn wsX4_edit (va_wsS RX4 67 yX4_has wsX4_has) := goodIn_app (goodIn_of _ (by decide +kernel)) ggX4_edit_X4_has
set_option maxRecDepth 20000 in
theorem ggX4_edit_X4_preferredOf : GoodIn wsX4_edit wsX4_preferredOf := goodIn_r _ [37, 2, 38, 23, 24, 25, 5, 26, 27, 28, 29, 30, 48, 49, 50, 51, 52, 53, 54, 55, 56] (by decide +kernel) (by decide +kernel)
set_option maxRecDepth 20000 in
theorem gX4_edit_X4_preferredOf : GoodIn wsX4_edit (wsV RX4 92 RX4 yX4_preferredOf wsX4_preferredOf) := goodIn_app (goodIn_of _ (by decide +kernel)) ggX4_edit_X4_preferredOf
set_option maxRecDepth 20000 in
theorem ggX4_edit_X4_at : GoodIn wsX4_edit wsX4_at := goodIn_r _ [33] (by decide +kernel) (by decide +kernel)
set_option maxRecDepth 20000 in
theorem gX4_edit_X4_at : GoodIn wsX4_edit (va_wsS RX4 49 yX4_at wsX4_at) := goodIn_app (goodIn_of _ (by decide +kernel)) ggX4_edit_X4_at
set_option maxRecDepth 20000 in
theorem ggX4_edit_X4_sets : GoodIn wsX4_edit wsX4_sets := goodIn_r _ [42, 1, 31, 32, 5, 33, 43, 44, 45, 46, 47, 2, 48, 49, 50, 51, 52, 53, 54, 55, 56] (by decide +kernel) (by decide +kernel)
set_option maxRecDepth 20000 in
theorem gX4_edit_X4_sets : GoodIn wsX4_edit (wsV RX4 63 RX4 yX4_sets wsX4_sets) := goodIn_app (goodIn_of _ (by decide +kernel)) ggX4_edit_X4_sets
set_option maxRecDepth 20000 in
theorem ggX4_edit_X4_groupOf : GoodIn wsX4_edit wsX4_groupOf := goodIn_r _ [26, 2, 27, 28, 29, 5, 30, 48, 49, 50, 51, 52, 53, 54, 55, 56] (by decide +kernel) (by decide +kernel)
set_option maxRecDepth 20000 in
theorem gX4_edit_X4_groupOf : GoodIn wsX4_edit (wsV RX4 86 RX4 yX4_groupOf wsX4_groupOf) := goodIn_app (goodIn_of _ (by decide +kernel)) ggX4_edit_X4_groupOf
theorem dX4_edit_0 : decode cX4_edit 0 = .ok (.iload_n 2, 1) := by decide +kernel
theorem dX4_edit_1 : decode cX4_edit 1 = .ok (.invokestatic 57, 3) := by decide +kernel
theorem dX4_edit_4 : decode cX4_edit 4 = .ok (.ifCond .eq 17, 3) := by decide +kernel
theorem dX4_edit_7 : decode cX4_edit 7 = .ok (.iload_n 3, 1) := by decide +kernel
theorem dX4_edit_8 : decode cX4_edit 8 = .ok (.iconst 0, 1) := by decide +kernel
theorem dX4_edit_9 : decode cX4_edit 9 = .ok (.bipush 29, 2) := by decide +kernel
theorem dX4_edit_11 : decode cX4_edit 11 = .ok (.invokestatic 38, 3) := by decide +kernel
theorem dX4_edit_14 : decode cX4_edit 14 = .ok (.ifCond .eq 7, 3) := by decide +kernel
theorem dX4_edit_17 : decode cX4_edit 17 = .ok (.iconst 1, 1) := by decide +kernel
theorem dX4_edit_18 : decode cX4_edit 18 = .ok (.goto 4, 3) := by decide +kernel
theorem dX4_edit_21 : decode cX4_edit 21 = .ok (.iconst 0, 1) := by decide +kernel
theorem dX4_edit_22 : decode cX4_edit 22 = .ok (.istore 4, 2) := by decide +kernel
theorem dX4_edit_24 : decode cX4_edit 24 = .ok (.aload_n 0, 1) := by decide +kernel
theorem dX4_edit_25 : decode cX4_edit 25 = .ok (.aload_n 0, 1) := by decide +kernel
theorem dX4_edit_26 : decode cX4_edit 26 = .ok (.iload_n 1, 1) := by decide +kernel
theorem dX4_edit_27 : decode cX4_edit 27 = .ok (.invokevirtual 60, 3) := by decide +kernel
theorem dX4_edit_30 : decode cX4_edit 30 = .ok (.ifCond .ne 7, 3) := by decide +kernel
theorem dX4_edit_33 : decode cX4_edit 33 = .ok (.iconst 1, 1) := by decide +kernel
theorem dX4_edit_34 : decode cX4_edit 34 = .ok (.goto 13, 3) := by decide +kernel
theorem dX4_edit_37 : decode cX4_edit 37 = .ok (.iload 4, 2) := by decide +kernel
theorem dX4_edit_39 : decode cX4_edit 39 = .ok (.ifCond .ne 7, 3) := by decide +kernel
theorem dX4_edit_42 : decode cX4_edit 42 = .ok (.iconst 2, 1) := by decide +kernel
theorem dX4_edit_43 : decode cX4_edit 43 = .ok (.goto 4, 3) := by decide +kernel
theorem dX4_edit_46 : decode cX4_edit 46 = .ok (.iconst 0, 1) := by decide +kernel
theorem dX4_edit_47 : decode cX4_edit 47 = .ok (.invokevirtual 46, 3) := by decide +kernel
theorem dX4_edit_50 : decode cX4_edit 50 = .ok (.ifCond .ne 5, 3) := by decide +kernel
theorem dX4_edit_53 : decode cX4_edit 53 = .ok (.iconst 0, 1) := by decide +kernel
theorem dX4_edit_54 : decode cX4_edit 54 = .ok (.ireturn, 1) := by decide +kernel
theorem dX4_edit_55 : decode cX4_edit 55 = .ok (.aload_n 0, 1) := by decide +kernel
theorem dX4_edit_56 : decode cX4_edit 56 = .ok (.iload_n 1, 1) := by decide +kernel
theorem dX4_edit_57 : decode cX4_edit 57 = .ok (.iload_n 2, 1) := by decide +kernel
theorem dX4_edit_58 : decode cX4_edit 58 = .ok (.invokevirtual 95, 3) := by decide +kernel
theorem dX4_edit_61 : decode cX4_edit 61 = .ok (.iload_n 3, 1) := by decide +kernel
theorem dX4_edit_62 : decode cX4_edit 62 = .ok (.invokestatic 67, 3) := by decide +kernel
theorem dX4_edit_65 : decode cX4_edit 65 = .ok (.ifCond .ne 39, 3) := by decide +kernel
theorem dX4_edit_68 : decode cX4_edit 68 = .ok (.aload_n 0, 1) := by decide +kernel
theorem dX4_edit_69 : decode cX4_edit 69 = .ok (.iload_n 1, 1) := by decide +kernel
theorem dX4_edit_70 : decode cX4_edit 70 = .ok (.invokevirtual 92, 3) := by decide +kernel
theorem dX4_edit_73 : decode cX4_edit 73 = .ok (.istore 5, 2) := by decide +kernel
theorem dX4_edit_75 : decode cX4_edit 75 = .ok (.aload_n 0, 1) := by decide +kernel
theorem dX4_edit_76 : decode cX4_edit 76 = .ok (.iload 5, 2) := by decide +kernel
theorem dX4_edit_78 : decode cX4_edit 78 = .ok (.iconst 0, 1) := by decide +kernel
theorem dX4_edit_79 : decode cX4_edit 79 = .ok (.iload_n 2, 1) := by decide +kernel
theorem dX4_edit_80 : decode cX4_edit 80 = .ok (.aload_n 0, 1) := by decide +kernel
theorem dX4_edit_81 : decode cX4_edit 81 = .ok (.getfield 16, 3) := by decide +kernel
theorem dX4_edit_84 : decode cX4_edit 84 = .ok (.iload 5, 2) := by decide +kernel
theorem dX4_edit_86 : decode cX4_edit 86 = .ok (.iconst 0, 1) := by decide +kernel
theorem dX4_edit_87 : decode cX4_edit 87 = .ok (.iload_n 2, 1) := by decide +kernel
theorem dX4_edit_88 : decode cX4_edit 88 = .ok (.invokestatic 49, 3) := by decide +kernel
theorem dX4_edit_91 : decode cX4_edit 91 = .ok (.iaload, 1) := by decide +kernel
theorem dX4_edit_92 : decode cX4_edit 92 = .ok (.iconst 1, 1) := by decide +kernel
theorem dX4_edit_93 : decode cX4_edit 93 = .ok (.iload_n 3, 1) := by decide +kernel
theorem dX4_edit_94 : decode cX4_edit 94 = .ok (.ishl, 1) := by decide +kernel
theorem dX4_edit_95 : decode cX4_edit 95 = .ok (.ior, 1) := by decide +kernel
theorem dX4_edit_96 : decode cX4_edit 96 = .ok (.invokevirtual 63, 3) := by decide +kernel
theorem dX4_edit_99 : decode cX4_edit 99 = .ok (.iconst 1, 1) := by decide +kernel
theorem dX4_edit_100 : decode cX4_edit 100 = .ok (.iload 5, 2) := by decide +kernel
theorem dX4_edit_102 : decode cX4_edit 102 = .ok (.ishl, 1) := by decide +kernel
theorem dX4_edit_103 : decode cX4_edit 103 = .ok (.ireturn, 1) := by decide +kernel
theorem dX4_edit_104 : decode cX4_edit 104 = .ok (.aload_n 0, 1) := by decide +kernel
theorem dX4_edit_105 : decode cX4_edit 105 = .ok (.iload_n 1, 1) := by decide +kernel
theorem dX4_edit_106 : decode cX4_edit 106 = .ok (.invokevirtual 86, 3) := by decide +kernel
theorem dX4_edit_109 : decode cX4_edit 109 = .ok (.istore 5, 2) := by decide +kernel
theorem dX4_edit_111 : decode cX4_edit 111 = .ok (.iconst 0, 1) := by decide +kernel
theorem dX4_edit_112 : decode cX4_edit 112 = .ok (.istore 6, 2) := by decide +kernel
theorem dX4_edit_114 : decode cX4_edit 114 = .ok (.iconst 0, 1) := by decide +kernel
theorem dX4_edit_115 : decode cX4_edit 115 = .ok (.istore 7, 2) := by decide +kernel
theorem dX4_edit_117 : decode cX4_edit 117 = .ok (.iload 7, 2) := by decide +kernel
theorem dX4_edit_119 : decode cX4_edit 119 = .ok (.aload_n 0, 1) := by decide +kernel
theorem dX4_edit_120 : decode cX4_edit 120 = .ok (.getfield 35, 3) := by decide +kernel
theorem dX4_edit_123 : decode cX4_edit 123 = .ok (.if_icmp .ge 73, 3) := by decide +kernel
theorem dX4_edit_126 : decode cX4_edit 126 = .ok (.iload 5, 2) := by decide +kernel
theorem dX4_edit_128 : decode cX4_edit 128 = .ok (.iload 7, 2) := by decide +kernel
theorem dX4_edit_130 : decode cX4_edit 130 = .ok (.invokestatic 67, 3) := by decide +kernel
theorem dX4_edit_133 : decode cX4_edit 133 = .ok (.ifCond .eq 57, 3) := by decide +kernel
theorem dX4_edit_136 : decode cX4_edit 136 = .ok (.aload_n 0, 1) := by decide +kernel
theorem dX4_edit_137 : decode cX4_edit 137 = .ok (.getfield 16, 3) := by decide +kernel
theorem dX4_edit_140 : decode cX4_edit 140 = .ok (.iload 7, 2) := by decide +kernel
theorem dX4_edit_142 : decode cX4_edit 142 = .ok (.iconst 0, 1) := by decide +kernel
theorem dX4_edit_143 : decode cX4_edit 143 = .ok (.iload_n 2, 1) := by decide +kernel
theorem dX4_edit_144 : decode cX4_edit 144 = .ok (.invokestatic 49, 3) := by decide +kernel
theorem dX4_edit_147 : decode cX4_edit 147 = .ok (.iaload, 1) := by decide +kernel
theorem dX4_edit_148 : decode cX4_edit 148 = .ok (.iload_n 3, 1) := by decide +kernel
theorem dX4_edit_149 : decode cX4_edit 149 = .ok (.invokestatic 67, 3) := by decide +kernel
theorem dX4_edit_152 : decode cX4_edit 152 = .ok (.ifCond .eq 38, 3) := by decide +kernel
theorem dX4_edit_155 : decode cX4_edit 155 = .ok (.aload_n 0, 1) := by decide +kernel
theorem dX4_edit_156 : decode cX4_edit 156 = .ok (.iload 7, 2) := by decide +kernel
theorem dX4_edit_158 : decode cX4_edit 158 = .ok (.iconst 0, 1) := by decide +kernel
theorem dX4_edit_159 : decode cX4_edit 159 = .ok (.iload_n 2, 1) := by decide +kernel
theorem dX4_edit_160 : decode cX4_edit 160 = .ok (.aload_n 0, 1) := by decide +kernel
theorem dX4_edit_161 : decode cX4_edit 161 = .ok (.getfield 16, 3) := by decide +kernel
theorem dX4_edit_164 : decode cX4_edit 164 = .ok (.iload 7, 2) := by decide +kernel
theorem dX4_edit_166 : decode cX4_edit 166 = .ok (.iconst 0, 1) := by decide +kernel
theorem dX4_edit_167 : decode cX4_edit 167 = .ok (.iload_n 2, 1) := by decide +kernel
theorem dX4_edit_168 : decode cX4_edit 168 = .ok (.invokestatic 49, 3) := by decide +kernel
theorem dX4_edit_171 : decode cX4_edit 171 = .ok (.iaload, 1) := by decide +kernel
theorem dX4_edit_172 : decode cX4_edit 172 = .ok (.iconst 1, 1) := by decide +kernel
theorem dX4_edit_173 : decode cX4_edit 173 = .ok (.iload_n 3, 1) := by decide +kernel
theorem dX4_edit_174 : decode cX4_edit 174 = .ok (.ishl, 1) := by decide +kernel
theorem dX4_edit_175 : decode cX4_edit 175 = .ok (.iconst (-1), 1) := by decide +kernel
theorem dX4_edit_176 : decode cX4_edit 176 = .ok (.ixor, 1) := by decide +kernel
theorem dX4_edit_177 : decode cX4_edit 177 = .ok (.iand, 1) := by decide +kernel
theorem dX4_edit_178 : decode cX4_edit 178 = .ok (.invokevirtual 63, 3) := by decide +kernel
theorem dX4_edit_181 : decode cX4_edit 181 = .ok (.iload 6, 2) := by decide +kernel
theorem dX4_edit_183 : decode cX4_edit 183 = .ok (.iconst 1, 1) := by decide +kernel
theorem dX4_edit_184 : decode cX4_edit 184 = .ok (.iload 7, 2) := by decide +kernel
theorem dX4_edit_186 : decode cX4_edit 186 = .ok (.ishl, 1) := by decide +kernel
theorem dX4_edit_187 : decode cX4_edit 187 = .ok (.ior, 1) := by decide +kernel
theorem dX4_edit_188 : decode cX4_edit 188 = .ok (.istore 6, 2) := by decide +kernel
theorem dX4_edit_190 : decode cX4_edit 190 = .ok (.iinc 7 1, 3) := by decide +kernel
theorem dX4_edit_193 : decode cX4_edit 193 = .ok (.goto (-76), 3) := by decide +kernel
theorem dX4_edit_196 : decode cX4_edit 196 = .ok (.iload 6, 2) := by decide +kernel
theorem dX4_edit_198 : decode cX4_edit 198 = .ok (.ireturn, 1) := by decide +kernel
set_option maxRecDepth 20000 in
theorem ggX4_alike_X4_at : GoodIn wsX4_alike wsX4_at := goodIn_r _ [6] (by decide +kernel) (by decide +kernel)
set_option maxRecDepth 20000 in
theorem gX4_alike_X4_at : GoodIn wsX4_alike (va_wsS RX4 49 yX4_at wsX4_at) := goodIn_app (goodIn_of _ (by decide +kernel)) ggX4_alike_X4_at
set_option maxRecDepth 20000 in
theorem ggX4_alike_X4_count : GoodIn wsX4_alike wsX4_count := goodIn_r _ [9] (by decide +kernel) (by decide +kernel)
set_option maxRecDepth 20000 in
theorem gX4_alike_X4_count : GoodIn wsX4_alike (va_wsS RX4 89 yX4_count wsX4_count) := goodIn_app (goodIn_of _ (by decide +kernel)) ggX4_alike_X4_count
theorem dX4_alike_0 : decode cX4_alike 0 = .ok (.aload_n 0, 1) := by decide +kernel
theorem dX4_alike_1 : decode cX4_alike 1 = .ok (.getfield 16, 3) := by decide +kernel
theorem dX4_alike_4 : decode cX4_alike 4 = .ok (.iload_n 1, 1) := by decide +kernel
theorem dX4_alike_5 : decode cX4_alike 5 = .ok (.iconst 0, 1) := by decide +kernel
theorem dX4_alike_6 : decode cX4_alike 6 = .ok (.iconst 0, 1) := by decide +kernel
theorem dX4_alike_7 : decode cX4_alike 7 = .ok (.invokestatic 49, 3) := by decide +kernel
theorem dX4_alike_10 : decode cX4_alike 10 = .ok (.iaload, 1) := by decide +kernel
theorem dX4_alike_11 : decode cX4_alike 11 = .ok (.aload_n 0, 1) := by decide +kernel
theorem dX4_alike_12 : decode cX4_alike 12 = .ok (.getfield 16, 3) := by decide +kernel
theorem dX4_alike_15 : decode cX4_alike 15 = .ok (.iload_n 2, 1) := by decide +kernel
theorem dX4_alike_16 : decode cX4_alike 16 = .ok (.iconst 0, 1) := by decide +kernel
theorem dX4_alike_17 : decode cX4_alike 17 = .ok (.iconst 0, 1) := by decide +kernel
theorem dX4_alike_18 : decode cX4_alike 18 = .ok (.invokestatic 49, 3) := by decide +kernel
theorem dX4_alike_21 : decode cX4_alike 21 = .ok (.iaload, 1) := by decide +kernel
theorem dX4_alike_22 : decode cX4_alike 22 = .ok (.iand, 1) := by decide +kernel
theorem dX4_alike_23 : decode cX4_alike 23 = .ok (.invokestatic 89, 3) := by decide +kernel
theorem dX4_alike_26 : decode cX4_alike 26 = .ok (.istore_n 3, 1) := by decide +kernel
theorem dX4_alike_27 : decode cX4_alike 27 = .ok (.aload_n 0, 1) := by decide +kernel
theorem dX4_alike_28 : decode cX4_alike 28 = .ok (.getfield 16, 3) := by decide +kernel
theorem dX4_alike_31 : decode cX4_alike 31 = .ok (.iload_n 1, 1) := by decide +kernel
theorem dX4_alike_32 : decode cX4_alike 32 = .ok (.iconst 0, 1) := by decide +kernel
theorem dX4_alike_33 : decode cX4_alike 33 = .ok (.iconst 1, 1) := by decide +kernel
theorem dX4_alike_34 : decode cX4_alike 34 = .ok (.invokestatic 49, 3) := by decide +kernel
theorem dX4_alike_37 : decode cX4_alike 37 = .ok (.iaload, 1) := by decide +kernel
theorem dX4_alike_38 : decode cX4_alike 38 = .ok (.aload_n 0, 1) := by decide +kernel
theorem dX4_alike_39 : decode cX4_alike 39 = .ok (.getfield 16, 3) := by decide +kernel
theorem dX4_alike_42 : decode cX4_alike 42 = .ok (.iload_n 2, 1) := by decide +kernel
theorem dX4_alike_43 : decode cX4_alike 43 = .ok (.iconst 0, 1) := by decide +kernel
theorem dX4_alike_44 : decode cX4_alike 44 = .ok (.iconst 1, 1) := by decide +kernel
theorem dX4_alike_45 : decode cX4_alike 45 = .ok (.invokestatic 49, 3) := by decide +kernel
theorem dX4_alike_48 : decode cX4_alike 48 = .ok (.iaload, 1) := by decide +kernel
theorem dX4_alike_49 : decode cX4_alike 49 = .ok (.iand, 1) := by decide +kernel
theorem dX4_alike_50 : decode cX4_alike 50 = .ok (.invokestatic 89, 3) := by decide +kernel
theorem dX4_alike_53 : decode cX4_alike 53 = .ok (.istore 4, 2) := by decide +kernel
theorem dX4_alike_55 : decode cX4_alike 55 = .ok (.iconst 3, 1) := by decide +kernel
theorem dX4_alike_56 : decode cX4_alike 56 = .ok (.iload_n 3, 1) := by decide +kernel
theorem dX4_alike_57 : decode cX4_alike 57 = .ok (.imul, 1) := by decide +kernel
theorem dX4_alike_58 : decode cX4_alike 58 = .ok (.iconst 2, 1) := by decide +kernel
theorem dX4_alike_59 : decode cX4_alike 59 = .ok (.iload 4, 2) := by decide +kernel
theorem dX4_alike_61 : decode cX4_alike 61 = .ok (.imul, 1) := by decide +kernel
theorem dX4_alike_62 : decode cX4_alike 62 = .ok (.iadd, 1) := by decide +kernel
theorem dX4_alike_63 : decode cX4_alike 63 = .ok (.aload_n 0, 1) := by decide +kernel
theorem dX4_alike_64 : decode cX4_alike 64 = .ok (.getfield 13, 3) := by decide +kernel
theorem dX4_alike_67 : decode cX4_alike 67 = .ok (.iconst 3, 1) := by decide +kernel
theorem dX4_alike_68 : decode cX4_alike 68 = .ok (.iload_n 1, 1) := by decide +kernel
theorem dX4_alike_69 : decode cX4_alike 69 = .ok (.imul, 1) := by decide +kernel
theorem dX4_alike_70 : decode cX4_alike 70 = .ok (.iaload, 1) := by decide +kernel
theorem dX4_alike_71 : decode cX4_alike 71 = .ok (.aload_n 0, 1) := by decide +kernel
theorem dX4_alike_72 : decode cX4_alike 72 = .ok (.getfield 13, 3) := by decide +kernel
theorem dX4_alike_75 : decode cX4_alike 75 = .ok (.iconst 3, 1) := by decide +kernel
theorem dX4_alike_76 : decode cX4_alike 76 = .ok (.iload_n 2, 1) := by decide +kernel
theorem dX4_alike_77 : decode cX4_alike 77 = .ok (.imul, 1) := by decide +kernel
theorem dX4_alike_78 : decode cX4_alike 78 = .ok (.iaload, 1) := by decide +kernel
theorem dX4_alike_79 : decode cX4_alike 79 = .ok (.if_icmp .ne 7, 3) := by decide +kernel
theorem dX4_alike_82 : decode cX4_alike 82 = .ok (.iconst 2, 1) := by decide +kernel
theorem dX4_alike_83 : decode cX4_alike 83 = .ok (.goto 4, 3) := by decide +kernel
theorem dX4_alike_86 : decode cX4_alike 86 = .ok (.iconst 0, 1) := by decide +kernel
theorem dX4_alike_87 : decode cX4_alike 87 = .ok (.iadd, 1) := by decide +kernel
theorem dX4_alike_88 : decode cX4_alike 88 = .ok (.ireturn, 1) := by decide +kernel
set_option maxRecDepth 20000 in
theorem ggX4_scoreOf_X4_groupOf : GoodIn wsX4_scoreOf wsX4_groupOf := goodIn_r _ [5, 6, 7, 8, 9, 4, 10, 23, 24, 25, 26, 27, 28, 29, 30, 31] (by decide +kernel) (by decide +kernel)
set_option maxRecDepth 20000 in
theorem gX4_scoreOf_X4_groupOf : GoodIn wsX4_scoreOf (wsV RX4 86 RX4 yX4_groupOf wsX4_groupOf) := goodIn_app (goodIn_of _ (by decide +kernel)) ggX4_scoreOf_X4_groupOf
set_option maxRecDepth 20000 in
theorem ggX4_scoreOf_X4_has : GoodIn wsX4_scoreOf wsX4_has := goodIn_r _ [10] (by decide +kernel) (by decide +kernel)
set_option maxRecDepth 20000 in
theorem gX4_scoreOf_X4_has : GoodIn wsX4_scoreOf (va_wsS RX4 67 yX4_has wsX4_has) := goodIn_app (goodIn_of _ (by decide +kernel)) ggX4_scoreOf_X4_has
set_option maxRecDepth 20000 in
theorem ggX4_scoreOf_X4_alike : GoodIn wsX4_scoreOf wsX4_alike := goodIn_r _ [14, 15, 16, 17, 18, 4, 19, 20, 21, 22, 23, 24, 25, 26, 27, 28, 29, 30, 31] (by decide +kernel) (by decide +kernel)
set_option maxRecDepth 20000 in
theorem gX4_scoreOf_X4_alike : GoodIn wsX4_scoreOf (wsV RX4 98 RX4 yX4_alike wsX4_alike) := goodIn_app (goodIn_of _ (by decide +kernel)) ggX4_scoreOf_X4_alike
theorem dX4_scoreOf_0 : decode cX4_scoreOf 0 = .ok (.aload_n 0, 1) := by decide +kernel
theorem dX4_scoreOf_1 : decode cX4_scoreOf 1 = .ok (.iload_n 1, 1) := by decide +kernel
theorem dX4_scoreOf_2 : decode cX4_scoreOf 2 = .ok (.invokevirtual 86, 3) := by decide +kernel
theorem dX4_scoreOf_5 : decode cX4_scoreOf 5 = .ok (.iload_n 2, 1) := by decide +kernel
theorem dX4_scoreOf_6 : decode cX4_scoreOf 6 = .ok (.invokestatic 67, 3) := by decide +kernel
theorem dX4_scoreOf_9 : decode cX4_scoreOf 9 = .ok (.ifCond .eq 7, 3) := by decide +kernel
theorem dX4_scoreOf_12 : decode cX4_scoreOf 12 = .ok (.iconst 0, 1) := by decide +kernel
theorem dX4_scoreOf_13 : decode cX4_scoreOf 13 = .ok (.goto 9, 3) := by decide +kernel
theorem dX4_scoreOf_16 : decode cX4_scoreOf 16 = .ok (.aload_n 0, 1) := by decide +kernel
theorem dX4_scoreOf_17 : decode cX4_scoreOf 17 = .ok (.iload_n 1, 1) := by decide +kernel
theorem dX4_scoreOf_18 : decode cX4_scoreOf 18 = .ok (.iload_n 2, 1) := by decide +kernel
theorem dX4_scoreOf_19 : decode cX4_scoreOf 19 = .ok (.invokevirtual 98, 3) := by decide +kernel
theorem dX4_scoreOf_22 : decode cX4_scoreOf 22 = .ok (.ireturn, 1) := by decide +kernel
set_option maxRecDepth 20000 in
theorem ggX4_isSuggested_X4_has : GoodIn wsX4_isSuggested wsX4_has := goodIn_r _ [6] (by decide +kernel) (by decide +kernel)
set_option maxRecDepth 20000 in
theorem gX4_isSuggested_X4_has : GoodIn wsX4_isSuggested (va_wsS RX4 67 yX4_has wsX4_has) := goodIn_app (goodIn_of _ (by decide +kernel)) ggX4_isSuggested_X4_has
set_option maxRecDepth 20000 in
theorem ggX4_isSuggested_X4_scoreOf : GoodIn wsX4_isSuggested wsX4_scoreOf := goodIn_r _ [10, 11, 12, 13, 5, 14, 15, 16, 3, 4, 6, 17, 18, 19, 20, 21, 22, 23, 24, 25, 26, 27, 28, 29, 30, 31, 32, 33, 34, 35, 36, 37] (by decide +kernel) (by decide +kernel)
set_option maxRecDepth 20000 in
theorem gX4_isSuggested_X4_scoreOf : GoodIn wsX4_isSuggested (wsV RX4 101 RX4 yX4_scoreOf wsX4_scoreOf) := goodIn_app (goodIn_of _ (by decide +kernel)) ggX4_isSuggested_X4_scoreOf
theorem dX4_isSuggested_0 : decode cX4_isSuggested 0 = .ok (.aload_n 0, 1) := by decide +kernel
theorem dX4_isSuggested_1 : decode cX4_isSuggested 1 = .ok (.getfield 22, 3) := by decide +kernel
theorem dX4_isSuggested_4 : decode cX4_isSuggested 4 = .ok (.iload_n 1, 1) := by decide +kernel
theorem dX4_isSuggested_5 : decode cX4_isSuggested 5 = .ok (.iaload, 1) := by decide +kernel
theorem dX4_isSuggested_6 : decode cX4_isSuggested 6 = .ok (.iload_n 2, 1) := by decide +kernel
theorem dX4_isSuggested_7 : decode cX4_isSuggested 7 = .ok (.invokestatic 67, 3) := by decide +kernel
theorem dX4_isSuggested_10 : decode cX4_isSuggested 10 = .ok (.ifCond .ne 29, 3) := by decide +kernel
theorem dX4_isSuggested_13 : decode cX4_isSuggested 13 = .ok (.aload_n 0, 1) := by decide +kernel
theorem dX4_isSuggested_14 : decode cX4_isSuggested 14 = .ok (.getfield 25, 3) := by decide +kernel
theorem dX4_isSuggested_17 : decode cX4_isSuggested 17 = .ok (.iload_n 1, 1) := by decide +kernel
theorem dX4_isSuggested_18 : decode cX4_isSuggested 18 = .ok (.iaload, 1) := by decide +kernel
theorem dX4_isSuggested_19 : decode cX4_isSuggested 19 = .ok (.iload_n 2, 1) := by decide +kernel
theorem dX4_isSuggested_20 : decode cX4_isSuggested 20 = .ok (.invokestatic 67, 3) := by decide +kernel
theorem dX4_isSuggested_23 : decode cX4_isSuggested 23 = .ok (.ifCond .ne 16, 3) := by decide +kernel
theorem dX4_isSuggested_26 : decode cX4_isSuggested 26 = .ok (.aload_n 0, 1) := by decide +kernel
theorem dX4_isSuggested_27 : decode cX4_isSuggested 27 = .ok (.iload_n 1, 1) := by decide +kernel
theorem dX4_isSuggested_28 : decode cX4_isSuggested 28 = .ok (.iload_n 2, 1) := by decide +kernel
theorem dX4_isSuggested_29 : decode cX4_isSuggested 29 = .ok (.invokevirtual 101, 3) := by decide +kernel
theorem dX4_isSuggested_32 : decode cX4_isSuggested 32 = .ok (.ifCond .le 7, 3) := by decide +kernel
theorem dX4_isSuggested_35 : decode cX4_isSuggested 35 = .ok (.iconst 1, 1) := by decide +kernel
theorem dX4_isSuggested_36 : decode cX4_isSuggested 36 = .ok (.goto 4, 3) := by decide +kernel
theorem dX4_isSuggested_39 : decode cX4_isSuggested 39 = .ok (.iconst 0, 1) := by decide +kernel
theorem dX4_isSuggested_40 : decode cX4_isSuggested 40 = .ok (.ireturn, 1) := by decide +kernel
set_option maxRecDepth 20000 in
theorem ggX4_score_X4_isCard : GoodIn wsX4_score wsX4_isCard := goodIn_r _ [5, 6, 7, 8, 4, 9, 39, 40, 41, 42, 43, 44, 45, 46, 47] (by decide +kernel) (by decide +kernel)
set_option maxRecDepth 20000 in
theorem gX4_score_X4_isCard : GoodIn wsX4_score (wsV RX4 60 RX4 yX4_isCard wsX4_isCard) := goodIn_app (goodIn_of _ (by decide +kernel)) ggX4_score_X4_isCard
set_option maxRecDepth 20000 in
theorem ggX4_score_X4_isFine : GoodIn wsX4_score wsX4_isFine := goodIn_r _ [13, 14, 39, 40, 41, 42, 43, 44, 45, 46, 47] (by decide +kernel) (by decide +kernel)
set_option maxRecDepth 20000 in
theorem gX4_score_X4_isFine : GoodIn wsX4_score (wsV RX4 46 RX4 yX4_isFine wsX4_isFine) := goodIn_app (goodIn_of _ (by decide +kernel)) ggX4_score_X4_isFine
set_option maxRecDepth 20000 in
theorem ggX4_score_X4_scoreOf : GoodIn wsX4_score wsX4_scoreOf := goodIn_r _ [18, 19, 20, 21, 4, 22, 6, 23, 24, 25, 26, 27, 28, 29, 30, 31, 32, 33, 34, 35, 36, 37, 38, 39, 40, 41, 42, 43, 44, 45, 46, 47] (by decide +kernel) (by decide +kernel)
set_option maxRecDepth 20000 in
theorem gX4_score_X4_scoreOf : GoodIn wsX4_score (wsV RX4 101 RX4 yX4_scoreOf wsX4_scoreOf) := goodIn_app (goodIn_of _ (by decide +kernel)) ggX4_score_X4_scoreOf
theorem dX4_score_0 : decode cX4_score 0 = .ok (.aload_n 0, 1) := by decide +kernel
theorem dX4_score_1 : decode cX4_score 1 = .ok (.iload_n 1, 1) := by decide +kernel
theorem dX4_score_2 : decode cX4_score 2 = .ok (.invokevirtual 60, 3) := by decide +kernel
theorem dX4_score_5 : decode cX4_score 5 = .ok (.ifCond .eq 15, 3) := by decide +kernel
theorem dX4_score_8 : decode cX4_score 8 = .ok (.aload_n 0, 1) := by decide +kernel
theorem dX4_score_9 : decode cX4_score 9 = .ok (.iload_n 2, 1) := by decide +kernel
theorem dX4_score_10 : decode cX4_score 10 = .ok (.invokevirtual 60, 3) := by decide +kernel
theorem dX4_score_13 : decode cX4_score 13 = .ok (.ifCond .eq 7, 3) := by decide +kernel
theorem dX4_score_16 : decode cX4_score 16 = .ok (.iconst 1, 1) := by decide +kernel
theorem dX4_score_17 : decode cX4_score 17 = .ok (.goto 4, 3) := by decide +kernel
theorem dX4_score_20 : decode cX4_score 20 = .ok (.iconst 0, 1) := by decide +kernel
theorem dX4_score_21 : decode cX4_score 21 = .ok (.istore_n 3, 1) := by decide +kernel
theorem dX4_score_22 : decode cX4_score 22 = .ok (.aload_n 0, 1) := by decide +kernel
theorem dX4_score_23 : decode cX4_score 23 = .ok (.iload_n 3, 1) := by decide +kernel
theorem dX4_score_24 : decode cX4_score 24 = .ok (.ifCond .ne 7, 3) := by decide +kernel
theorem dX4_score_27 : decode cX4_score 27 = .ok (.iconst 1, 1) := by decide +kernel
theorem dX4_score_28 : decode cX4_score 28 = .ok (.goto 13, 3) := by decide +kernel
theorem dX4_score_31 : decode cX4_score 31 = .ok (.iload_n 1, 1) := by decide +kernel
theorem dX4_score_32 : decode cX4_score 32 = .ok (.iload_n 2, 1) := by decide +kernel
theorem dX4_score_33 : decode cX4_score 33 = .ok (.if_icmp .ne 7, 3) := by decide +kernel
theorem dX4_score_36 : decode cX4_score 36 = .ok (.iconst 2, 1) := by decide +kernel
theorem dX4_score_37 : decode cX4_score 37 = .ok (.goto 4, 3) := by decide +kernel
theorem dX4_score_40 : decode cX4_score 40 = .ok (.iconst 0, 1) := by decide +kernel
theorem dX4_score_41 : decode cX4_score 41 = .ok (.invokevirtual 46, 3) := by decide +kernel
theorem dX4_score_44 : decode cX4_score 44 = .ok (.ifCond .eq 12, 3) := by decide +kernel
theorem dX4_score_47 : decode cX4_score 47 = .ok (.aload_n 0, 1) := by decide +kernel
theorem dX4_score_48 : decode cX4_score 48 = .ok (.iload_n 1, 1) := by decide +kernel
theorem dX4_score_49 : decode cX4_score 49 = .ok (.iload_n 2, 1) := by decide +kernel
theorem dX4_score_50 : decode cX4_score 50 = .ok (.invokevirtual 101, 3) := by decide +kernel
theorem dX4_score_53 : decode cX4_score 53 = .ok (.goto 4, 3) := by decide +kernel
theorem dX4_score_56 : decode cX4_score 56 = .ok (.iconst 0, 1) := by decide +kernel
theorem dX4_score_57 : decode cX4_score 57 = .ok (.ireturn, 1) := by decide +kernel
set_option maxRecDepth 20000 in
theorem ggX4_finds_X4_groupOf : GoodIn wsX4_finds wsX4_groupOf := goodIn_r _ [9, 1, 10, 11, 12, 8, 13, 26, 27, 28, 29, 30, 31, 32, 33, 34] (by decide +kernel) (by decide +kernel)
set_option maxRecDepth 20000 in
theorem gX4_finds_X4_groupOf : GoodIn wsX4_finds (wsV RX4 86 RX4 yX4_groupOf wsX4_groupOf) := goodIn_app (goodIn_of _ (by decide +kernel)) ggX4_finds_X4_groupOf
set_option maxRecDepth 20000 in
theorem ggX4_finds_X4_has : GoodIn wsX4_finds wsX4_has := goodIn_r _ [13] (by decide +kernel) (by decide +kernel)
set_option maxRecDepth 20000 in
theorem gX4_finds_X4_has : GoodIn wsX4_finds (va_wsS RX4 67 yX4_has wsX4_has) := goodIn_app (goodIn_of _ (by decide +kernel)) ggX4_finds_X4_has
set_option maxRecDepth 20000 in
theorem ggX4_finds_X4_alike : GoodIn wsX4_finds wsX4_alike := goodIn_r _ [17, 18, 19, 20, 21, 8, 22, 23, 24, 25, 26, 27, 28, 29, 30, 31, 32, 33, 34] (by decide +kernel) (by decide +kernel)
set_option maxRecDepth 20000 in
theorem gX4_finds_X4_alike : GoodIn wsX4_finds (wsV RX4 98 RX4 yX4_alike wsX4_alike) := goodIn_app (goodIn_of _ (by decide +kernel)) ggX4_finds_X4_alike
theorem dX4_finds_0 : decode cX4_finds 0 = .ok (.iconst 0, 1) := by decide +kernel
theorem dX4_finds_1 : decode cX4_finds 1 = .ok (.istore_n 1, 1) := by decide +kernel
theorem dX4_finds_2 : decode cX4_finds 2 = .ok (.iconst 0, 1) := by decide +kernel
theorem dX4_finds_3 : decode cX4_finds 3 = .ok (.istore_n 2, 1) := by decide +kernel
theorem dX4_finds_4 : decode cX4_finds 4 = .ok (.iload_n 2, 1) := by decide +kernel
theorem dX4_finds_5 : decode cX4_finds 5 = .ok (.aload_n 0, 1) := by decide +kernel
theorem dX4_finds_6 : decode cX4_finds 6 = .ok (.getfield 35, 3) := by decide +kernel
theorem dX4_finds_9 : decode cX4_finds 9 = .ok (.if_icmp .ge 130, 3) := by decide +kernel
theorem dX4_finds_12 : decode cX4_finds 12 = .ok (.aload_n 0, 1) := by decide +kernel
theorem dX4_finds_13 : decode cX4_finds 13 = .ok (.iload_n 2, 1) := by decide +kernel
theorem dX4_finds_14 : decode cX4_finds 14 = .ok (.invokevirtual 86, 3) := by decide +kernel
theorem dX4_finds_17 : decode cX4_finds 17 = .ok (.istore_n 3, 1) := by decide +kernel
theorem dX4_finds_18 : decode cX4_finds 18 = .ok (.iload_n 2, 1) := by decide +kernel
theorem dX4_finds_19 : decode cX4_finds 19 = .ok (.iconst 1, 1) := by decide +kernel
theorem dX4_finds_20 : decode cX4_finds 20 = .ok (.iadd, 1) := by decide +kernel
theorem dX4_finds_21 : decode cX4_finds 21 = .ok (.istore 4, 2) := by decide +kernel
theorem dX4_finds_23 : decode cX4_finds 23 = .ok (.iload 4, 2) := by decide +kernel
theorem dX4_finds_25 : decode cX4_finds 25 = .ok (.aload_n 0, 1) := by decide +kernel
theorem dX4_finds_26 : decode cX4_finds 26 = .ok (.getfield 35, 3) := by decide +kernel
theorem dX4_finds_29 : decode cX4_finds 29 = .ok (.if_icmp .ge 104, 3) := by decide +kernel
theorem dX4_finds_32 : decode cX4_finds 32 = .ok (.iload_n 3, 1) := by decide +kernel
theorem dX4_finds_33 : decode cX4_finds 33 = .ok (.iload 4, 2) := by decide +kernel
theorem dX4_finds_35 : decode cX4_finds 35 = .ok (.invokestatic 67, 3) := by decide +kernel
theorem dX4_finds_38 : decode cX4_finds 38 = .ok (.ifCond .ne 35, 3) := by decide +kernel
theorem dX4_finds_41 : decode cX4_finds 41 = .ok (.aload_n 0, 1) := by decide +kernel
theorem dX4_finds_42 : decode cX4_finds 42 = .ok (.getfield 22, 3) := by decide +kernel
theorem dX4_finds_45 : decode cX4_finds 45 = .ok (.iload_n 2, 1) := by decide +kernel
theorem dX4_finds_46 : decode cX4_finds 46 = .ok (.iaload, 1) := by decide +kernel
theorem dX4_finds_47 : decode cX4_finds 47 = .ok (.iload 4, 2) := by decide +kernel
theorem dX4_finds_49 : decode cX4_finds 49 = .ok (.invokestatic 67, 3) := by decide +kernel
theorem dX4_finds_52 : decode cX4_finds 52 = .ok (.ifCond .ne 21, 3) := by decide +kernel
theorem dX4_finds_55 : decode cX4_finds 55 = .ok (.aload_n 0, 1) := by decide +kernel
theorem dX4_finds_56 : decode cX4_finds 56 = .ok (.getfield 25, 3) := by decide +kernel
theorem dX4_finds_59 : decode cX4_finds 59 = .ok (.iload_n 2, 1) := by decide +kernel
theorem dX4_finds_60 : decode cX4_finds 60 = .ok (.iaload, 1) := by decide +kernel
theorem dX4_finds_61 : decode cX4_finds 61 = .ok (.iload 4, 2) := by decide +kernel
theorem dX4_finds_63 : decode cX4_finds 63 = .ok (.invokestatic 67, 3) := by decide +kernel
theorem dX4_finds_66 : decode cX4_finds 66 = .ok (.ifCond .ne 7, 3) := by decide +kernel
theorem dX4_finds_69 : decode cX4_finds 69 = .ok (.iconst 1, 1) := by decide +kernel
theorem dX4_finds_70 : decode cX4_finds 70 = .ok (.goto 4, 3) := by decide +kernel
theorem dX4_finds_73 : decode cX4_finds 73 = .ok (.iconst 0, 1) := by decide +kernel
theorem dX4_finds_74 : decode cX4_finds 74 = .ok (.istore 5, 2) := by decide +kernel
theorem dX4_finds_76 : decode cX4_finds 76 = .ok (.aload_n 0, 1) := by decide +kernel
theorem dX4_finds_77 : decode cX4_finds 77 = .ok (.getfield 28, 3) := by decide +kernel
theorem dX4_finds_80 : decode cX4_finds 80 = .ok (.bipush 24, 2) := by decide +kernel
theorem dX4_finds_82 : decode cX4_finds 82 = .ok (.iload_n 2, 1) := by decide +kernel
theorem dX4_finds_83 : decode cX4_finds 83 = .ok (.imul, 1) := by decide +kernel
theorem dX4_finds_84 : decode cX4_finds 84 = .ok (.iload 4, 2) := by decide +kernel
theorem dX4_finds_86 : decode cX4_finds 86 = .ok (.iadd, 1) := by decide +kernel
theorem dX4_finds_87 : decode cX4_finds 87 = .ok (.iload 5, 2) := by decide +kernel
theorem dX4_finds_89 : decode cX4_finds 89 = .ok (.ifCond .eq 13, 3) := by decide +kernel
theorem dX4_finds_92 : decode cX4_finds 92 = .ok (.aload_n 0, 1) := by decide +kernel
theorem dX4_finds_93 : decode cX4_finds 93 = .ok (.iload_n 2, 1) := by decide +kernel
theorem dX4_finds_94 : decode cX4_finds 94 = .ok (.iload 4, 2) := by decide +kernel
theorem dX4_finds_96 : decode cX4_finds 96 = .ok (.invokevirtual 98, 3) := by decide +kernel
theorem dX4_finds_99 : decode cX4_finds 99 = .ok (.goto 4, 3) := by decide +kernel
theorem dX4_finds_102 : decode cX4_finds 102 = .ok (.iconst 0, 1) := by decide +kernel
theorem dX4_finds_103 : decode cX4_finds 103 = .ok (.iastore, 1) := by decide +kernel
theorem dX4_finds_104 : decode cX4_finds 104 = .ok (.iload_n 1, 1) := by decide +kernel
theorem dX4_finds_105 : decode cX4_finds 105 = .ok (.aload_n 0, 1) := by decide +kernel
theorem dX4_finds_106 : decode cX4_finds 106 = .ok (.getfield 28, 3) := by decide +kernel
theorem dX4_finds_109 : decode cX4_finds 109 = .ok (.bipush 24, 2) := by decide +kernel
theorem dX4_finds_111 : decode cX4_finds 111 = .ok (.iload_n 2, 1) := by decide +kernel
theorem dX4_finds_112 : decode cX4_finds 112 = .ok (.imul, 1) := by decide +kernel
theorem dX4_finds_113 : decode cX4_finds 113 = .ok (.iload 4, 2) := by decide +kernel
theorem dX4_finds_115 : decode cX4_finds 115 = .ok (.iadd, 1) := by decide +kernel
theorem dX4_finds_116 : decode cX4_finds 116 = .ok (.iaload, 1) := by decide +kernel
theorem dX4_finds_117 : decode cX4_finds 117 = .ok (.ifCond .le 7, 3) := by decide +kernel
theorem dX4_finds_120 : decode cX4_finds 120 = .ok (.iconst 1, 1) := by decide +kernel
theorem dX4_finds_121 : decode cX4_finds 121 = .ok (.goto 4, 3) := by decide +kernel
theorem dX4_finds_124 : decode cX4_finds 124 = .ok (.iconst 0, 1) := by decide +kernel
theorem dX4_finds_125 : decode cX4_finds 125 = .ok (.iadd, 1) := by decide +kernel
theorem dX4_finds_126 : decode cX4_finds 126 = .ok (.istore_n 1, 1) := by decide +kernel
theorem dX4_finds_127 : decode cX4_finds 127 = .ok (.iinc 4 1, 3) := by decide +kernel
theorem dX4_finds_130 : decode cX4_finds 130 = .ok (.goto (-107), 3) := by decide +kernel
theorem dX4_finds_133 : decode cX4_finds 133 = .ok (.iinc 2 1, 3) := by decide +kernel
theorem dX4_finds_136 : decode cX4_finds 136 = .ok (.goto (-132), 3) := by decide +kernel
theorem dX4_finds_139 : decode cX4_finds 139 = .ok (.iload_n 1, 1) := by decide +kernel
theorem dX4_finds_140 : decode cX4_finds 140 = .ok (.ireturn, 1) := by decide +kernel
set_option maxRecDepth 20000 in
theorem ggX4_pairs_X4_finds : GoodIn wsX4_pairs wsX4_finds := goodIn_r _ [6, 7, 8, 9, 10, 11, 12, 13, 5, 14, 15, 16, 17, 18, 19, 20, 21, 22, 23, 24, 25, 26, 27, 28, 29, 30, 31, 32, 33, 34, 35, 36, 37, 38, 39] (by decide +kernel) (by decide +kernel)
set_option maxRecDepth 20000 in
theorem gX4_pairs_X4_finds : GoodIn wsX4_pairs (wsV RX4 104 RX4 yX4_finds wsX4_finds) := goodIn_app (goodIn_of _ (by decide +kernel)) ggX4_pairs_X4_finds
theorem dX4_pairs_0 : decode cX4_pairs 0 = .ok (.aload_n 0, 1) := by decide +kernel
theorem dX4_pairs_1 : decode cX4_pairs 1 = .ok (.iconst 0, 1) := by decide +kernel
theorem dX4_pairs_2 : decode cX4_pairs 2 = .ok (.putfield 31, 3) := by decide +kernel
theorem dX4_pairs_5 : decode cX4_pairs 5 = .ok (.aload_n 0, 1) := by decide +kernel
theorem dX4_pairs_6 : decode cX4_pairs 6 = .ok (.invokevirtual 104, 3) := by decide +kernel
theorem dX4_pairs_9 : decode cX4_pairs 9 = .ok (.ireturn, 1) := by decide +kernel
set_option maxRecDepth 20000 in
theorem ggX4_pairAt_X4_finds : GoodIn wsX4_pairAt wsX4_finds := goodIn_r _ [7, 1, 8, 9, 2, 10, 11, 12, 6, 13, 14, 15, 16, 17, 18, 19, 20, 21, 22, 23, 24, 25, 26, 27, 28, 29, 38, 39, 40, 41, 42, 43, 44, 45, 46] (by decide +kernel) (by decide +kernel)
set_option maxRecDepth 20000 in
theorem gX4_pairAt_X4_finds : GoodIn wsX4_pairAt (wsV RX4 104 RX4 yX4_finds wsX4_finds) := goodIn_app (goodIn_of _ (by decide +kernel)) ggX4_pairAt_X4_finds
set_option maxRecDepth 20000 in
theorem ggX4_pairAt_X4_isIn : GoodIn wsX4_pairAt wsX4_isIn := goodIn_r _ [32] (by decide +kernel) (by decide +kernel)
set_option maxRecDepth 20000 in
theorem gX4_pairAt_X4_isIn : GoodIn wsX4_pairAt (va_wsS RX4 38 yX4_isIn wsX4_isIn) := goodIn_app (goodIn_of _ (by decide +kernel)) ggX4_pairAt_X4_isIn
set_option maxRecDepth 20000 in
theorem ggX4_pairAt_X4_isFine : GoodIn wsX4_pairAt wsX4_isFine := goodIn_r _ [36, 37, 38, 39, 40, 41, 42, 43, 44, 45, 46] (by decide +kernel) (by decide +kernel)
set_option maxRecDepth 20000 in
theorem gX4_pairAt_X4_isFine : GoodIn wsX4_pairAt (wsV RX4 46 RX4 yX4_isFine wsX4_isFine) := goodIn_app (goodIn_of _ (by decide +kernel)) ggX4_pairAt_X4_isFine
theorem dX4_pairAt_0 : decode cX4_pairAt 0 = .ok (.aload_n 0, 1) := by decide +kernel
theorem dX4_pairAt_1 : decode cX4_pairAt 1 = .ok (.iload_n 1, 1) := by decide +kernel
theorem dX4_pairAt_2 : decode cX4_pairAt 2 = .ok (.iconst 0, 1) := by decide +kernel
theorem dX4_pairAt_3 : decode cX4_pairAt 3 = .ok (.aload_n 0, 1) := by decide +kernel
theorem dX4_pairAt_4 : decode cX4_pairAt 4 = .ok (.invokevirtual 104, 3) := by decide +kernel
theorem dX4_pairAt_7 : decode cX4_pairAt 7 = .ok (.iconst 1, 1) := by decide +kernel
theorem dX4_pairAt_8 : decode cX4_pairAt 8 = .ok (.isub, 1) := by decide +kernel
theorem dX4_pairAt_9 : decode cX4_pairAt 9 = .ok (.invokestatic 38, 3) := by decide +kernel
theorem dX4_pairAt_12 : decode cX4_pairAt 12 = .ok (.ifCond .eq 7, 3) := by decide +kernel
theorem dX4_pairAt_15 : decode cX4_pairAt 15 = .ok (.iconst 0, 1) := by decide +kernel
theorem dX4_pairAt_16 : decode cX4_pairAt 16 = .ok (.goto 4, 3) := by decide +kernel
theorem dX4_pairAt_19 : decode cX4_pairAt 19 = .ok (.iconst 1, 1) := by decide +kernel
theorem dX4_pairAt_20 : decode cX4_pairAt 20 = .ok (.invokevirtual 46, 3) := by decide +kernel
theorem dX4_pairAt_23 : decode cX4_pairAt 23 = .ok (.ifCond .ne 5, 3) := by decide +kernel
theorem dX4_pairAt_26 : decode cX4_pairAt 26 = .ok (.iconst 0, 1) := by decide +kernel
theorem dX4_pairAt_27 : decode cX4_pairAt 27 = .ok (.ireturn, 1) := by decide +kernel
theorem dX4_pairAt_28 : decode cX4_pairAt 28 = .ok (.iconst 0, 1) := by decide +kernel
theorem dX4_pairAt_29 : decode cX4_pairAt 29 = .ok (.istore_n 2, 1) := by decide +kernel
theorem dX4_pairAt_30 : decode cX4_pairAt 30 = .ok (.iconst 0, 1) := by decide +kernel
theorem dX4_pairAt_31 : decode cX4_pairAt 31 = .ok (.istore_n 3, 1) := by decide +kernel
theorem dX4_pairAt_32 : decode cX4_pairAt 32 = .ok (.iload_n 3, 1) := by decide +kernel
theorem dX4_pairAt_33 : decode cX4_pairAt 33 = .ok (.iload_n 1, 1) := by decide +kernel
theorem dX4_pairAt_34 : decode cX4_pairAt 34 = .ok (.if_icmp .gt 119, 3) := by decide +kernel
theorem dX4_pairAt_37 : decode cX4_pairAt 37 = .ok (.iconst (-1), 1) := by decide +kernel
theorem dX4_pairAt_38 : decode cX4_pairAt 38 = .ok (.istore_n 2, 1) := by decide +kernel
theorem dX4_pairAt_39 : decode cX4_pairAt 39 = .ok (.iconst 0, 1) := by decide +kernel
theorem dX4_pairAt_40 : decode cX4_pairAt 40 = .ok (.istore 4, 2) := by decide +kernel
theorem dX4_pairAt_42 : decode cX4_pairAt 42 = .ok (.iload 4, 2) := by decide +kernel
theorem dX4_pairAt_44 : decode cX4_pairAt 44 = .ok (.aload_n 0, 1) := by decide +kernel
theorem dX4_pairAt_45 : decode cX4_pairAt 45 = .ok (.getfield 35, 3) := by decide +kernel
theorem dX4_pairAt_48 : decode cX4_pairAt 48 = .ok (.if_icmp .ge 78, 3) := by decide +kernel
theorem dX4_pairAt_51 : decode cX4_pairAt 51 = .ok (.iload 4, 2) := by decide +kernel
theorem dX4_pairAt_53 : decode cX4_pairAt 53 = .ok (.iconst 1, 1) := by decide +kernel
theorem dX4_pairAt_54 : decode cX4_pairAt 54 = .ok (.iadd, 1) := by decide +kernel
theorem dX4_pairAt_55 : decode cX4_pairAt 55 = .ok (.istore 5, 2) := by decide +kernel
theorem dX4_pairAt_57 : decode cX4_pairAt 57 = .ok (.iload 5, 2) := by decide +kernel
theorem dX4_pairAt_59 : decode cX4_pairAt 59 = .ok (.aload_n 0, 1) := by decide +kernel
theorem dX4_pairAt_60 : decode cX4_pairAt 60 = .ok (.getfield 35, 3) := by decide +kernel
theorem dX4_pairAt_63 : decode cX4_pairAt 63 = .ok (.if_icmp .ge 57, 3) := by decide +kernel
theorem dX4_pairAt_66 : decode cX4_pairAt 66 = .ok (.bipush 24, 2) := by decide +kernel
theorem dX4_pairAt_68 : decode cX4_pairAt 68 = .ok (.iload 4, 2) := by decide +kernel
theorem dX4_pairAt_70 : decode cX4_pairAt 70 = .ok (.imul, 1) := by decide +kernel
theorem dX4_pairAt_71 : decode cX4_pairAt 71 = .ok (.iload 5, 2) := by decide +kernel
theorem dX4_pairAt_73 : decode cX4_pairAt 73 = .ok (.iadd, 1) := by decide +kernel
theorem dX4_pairAt_74 : decode cX4_pairAt 74 = .ok (.istore 6, 2) := by decide +kernel
theorem dX4_pairAt_76 : decode cX4_pairAt 76 = .ok (.aload_n 0, 1) := by decide +kernel
theorem dX4_pairAt_77 : decode cX4_pairAt 77 = .ok (.getfield 28, 3) := by decide +kernel
theorem dX4_pairAt_80 : decode cX4_pairAt 80 = .ok (.iload 6, 2) := by decide +kernel
theorem dX4_pairAt_82 : decode cX4_pairAt 82 = .ok (.iaload, 1) := by decide +kernel
theorem dX4_pairAt_83 : decode cX4_pairAt 83 = .ok (.ifCond .le 29, 3) := by decide +kernel
theorem dX4_pairAt_86 : decode cX4_pairAt 86 = .ok (.iload_n 2, 1) := by decide +kernel
theorem dX4_pairAt_87 : decode cX4_pairAt 87 = .ok (.iconst (-1), 1) := by decide +kernel
theorem dX4_pairAt_88 : decode cX4_pairAt 88 = .ok (.if_icmp .eq 19, 3) := by decide +kernel
theorem dX4_pairAt_91 : decode cX4_pairAt 91 = .ok (.aload_n 0, 1) := by decide +kernel
theorem dX4_pairAt_92 : decode cX4_pairAt 92 = .ok (.getfield 28, 3) := by decide +kernel
theorem dX4_pairAt_95 : decode cX4_pairAt 95 = .ok (.iload 6, 2) := by decide +kernel
theorem dX4_pairAt_97 : decode cX4_pairAt 97 = .ok (.iaload, 1) := by decide +kernel
theorem dX4_pairAt_98 : decode cX4_pairAt 98 = .ok (.aload_n 0, 1) := by decide +kernel
theorem dX4_pairAt_99 : decode cX4_pairAt 99 = .ok (.getfield 28, 3) := by decide +kernel
theorem dX4_pairAt_102 : decode cX4_pairAt 102 = .ok (.iload_n 2, 1) := by decide +kernel
theorem dX4_pairAt_103 : decode cX4_pairAt 103 = .ok (.iaload, 1) := by decide +kernel
theorem dX4_pairAt_104 : decode cX4_pairAt 104 = .ok (.if_icmp .le 8, 3) := by decide +kernel
theorem dX4_pairAt_107 : decode cX4_pairAt 107 = .ok (.iload 6, 2) := by decide +kernel
theorem dX4_pairAt_109 : decode cX4_pairAt 109 = .ok (.goto 4, 3) := by decide +kernel
theorem dX4_pairAt_112 : decode cX4_pairAt 112 = .ok (.iload_n 2, 1) := by decide +kernel
theorem dX4_pairAt_113 : decode cX4_pairAt 113 = .ok (.istore_n 2, 1) := by decide +kernel
theorem dX4_pairAt_114 : decode cX4_pairAt 114 = .ok (.iinc 5 1, 3) := by decide +kernel
theorem dX4_pairAt_117 : decode cX4_pairAt 117 = .ok (.goto (-60), 3) := by decide +kernel
theorem dX4_pairAt_120 : decode cX4_pairAt 120 = .ok (.iinc 4 1, 3) := by decide +kernel
theorem dX4_pairAt_123 : decode cX4_pairAt 123 = .ok (.goto (-81), 3) := by decide +kernel
theorem dX4_pairAt_126 : decode cX4_pairAt 126 = .ok (.aload_n 0, 1) := by decide +kernel
theorem dX4_pairAt_127 : decode cX4_pairAt 127 = .ok (.getfield 28, 3) := by decide +kernel
theorem dX4_pairAt_130 : decode cX4_pairAt 130 = .ok (.iload_n 2, 1) := by decide +kernel
theorem dX4_pairAt_131 : decode cX4_pairAt 131 = .ok (.iload_n 3, 1) := by decide +kernel
theorem dX4_pairAt_132 : decode cX4_pairAt 132 = .ok (.iload_n 1, 1) := by decide +kernel
theorem dX4_pairAt_133 : decode cX4_pairAt 133 = .ok (.if_icmp .ge 7, 3) := by decide +kernel
theorem dX4_pairAt_136 : decode cX4_pairAt 136 = .ok (.iconst 0, 1) := by decide +kernel
theorem dX4_pairAt_137 : decode cX4_pairAt 137 = .ok (.goto 9, 3) := by decide +kernel
theorem dX4_pairAt_140 : decode cX4_pairAt 140 = .ok (.aload_n 0, 1) := by decide +kernel
theorem dX4_pairAt_141 : decode cX4_pairAt 141 = .ok (.getfield 28, 3) := by decide +kernel
theorem dX4_pairAt_144 : decode cX4_pairAt 144 = .ok (.iload_n 2, 1) := by decide +kernel
theorem dX4_pairAt_145 : decode cX4_pairAt 145 = .ok (.iaload, 1) := by decide +kernel
theorem dX4_pairAt_146 : decode cX4_pairAt 146 = .ok (.iastore, 1) := by decide +kernel
theorem dX4_pairAt_147 : decode cX4_pairAt 147 = .ok (.iinc 3 1, 3) := by decide +kernel
theorem dX4_pairAt_150 : decode cX4_pairAt 150 = .ok (.goto (-118), 3) := by decide +kernel
theorem dX4_pairAt_153 : decode cX4_pairAt 153 = .ok (.bipush 100, 2) := by decide +kernel
theorem dX4_pairAt_155 : decode cX4_pairAt 155 = .ok (.iload_n 2, 1) := by decide +kernel
theorem dX4_pairAt_156 : decode cX4_pairAt 156 = .ok (.bipush 24, 2) := by decide +kernel
theorem dX4_pairAt_158 : decode cX4_pairAt 158 = .ok (.idiv, 1) := by decide +kernel
theorem dX4_pairAt_159 : decode cX4_pairAt 159 = .ok (.imul, 1) := by decide +kernel
theorem dX4_pairAt_160 : decode cX4_pairAt 160 = .ok (.iload_n 2, 1) := by decide +kernel
theorem dX4_pairAt_161 : decode cX4_pairAt 161 = .ok (.bipush 24, 2) := by decide +kernel
theorem dX4_pairAt_163 : decode cX4_pairAt 163 = .ok (.irem, 1) := by decide +kernel
theorem dX4_pairAt_164 : decode cX4_pairAt 164 = .ok (.iadd, 1) := by decide +kernel
theorem dX4_pairAt_165 : decode cX4_pairAt 165 = .ok (.ireturn, 1) := by decide +kernel
set_option maxRecDepth 20000 in
theorem ggX4_turnDown_X4_isCard : GoodIn wsX4_turnDown wsX4_isCard := goodIn_r _ [7, 8, 9, 10, 6, 11, 50, 51, 52, 53, 54, 55, 56, 57, 58] (by decide +kernel) (by decide +kernel)
set_option maxRecDepth 20000 in
theorem gX4_turnDown_X4_isCard : GoodIn wsX4_turnDown (wsV RX4 60 RX4 yX4_isCard wsX4_isCard) := goodIn_app (goodIn_of _ (by decide +kernel)) ggX4_turnDown_X4_isCard
set_option maxRecDepth 20000 in
theorem ggX4_turnDown_X4_isSuggested : GoodIn wsX4_turnDown wsX4_isSuggested := goodIn_r _ [15, 1, 2, 16, 17, 6, 18, 19, 20, 21, 22, 23, 24, 25, 26, 8, 27, 28, 29, 30, 31, 32, 33, 34, 35, 36, 37, 38, 39, 50, 51, 52, 53, 54, 55, 56, 57, 58] (by decide +kernel) (by decide +kernel)
set_option maxRecDepth 20000 in
theorem gX4_turnDown_X4_isSuggested : GoodIn wsX4_turnDown (wsV RX4 108 RX4 yX4_isSuggested wsX4_isSuggested) := goodIn_app (goodIn_of _ (by decide +kernel)) ggX4_turnDown_X4_isSuggested
set_option maxRecDepth 20000 in
theorem ggX4_turnDown_X4_isFine : GoodIn wsX4_turnDown wsX4_isFine := goodIn_r _ [43, 44, 50, 51, 52, 53, 54, 55, 56, 57, 58] (by decide +kernel) (by decide +kernel)
set_option maxRecDepth 20000 in
theorem gX4_turnDown_X4_isFine : GoodIn wsX4_turnDown (wsV RX4 46 RX4 yX4_isFine wsX4_isFine) := goodIn_app (goodIn_of _ (by decide +kernel)) ggX4_turnDown_X4_isFine
set_option maxRecDepth 20000 in
theorem ggX4_turnDown_X4_finds : GoodIn wsX4_turnDown wsX4_finds := goodIn_r _ [48, 8, 1, 2, 49, 23, 24, 25, 6, 26, 27, 16, 17, 18, 28, 29, 30, 31, 32, 33, 34, 35, 36, 37, 38, 39, 50, 51, 52, 53, 54, 55, 56, 57, 58] (by decide +kernel) (by decide +kernel)
set_option maxRecDepth 20000 in
theorem gX4_turnDown_X4_finds : GoodIn wsX4_turnDown (wsV RX4 104 RX4 yX4_finds wsX4_finds) := goodIn_app (goodIn_of _ (by decide +kernel)) ggX4_turnDown_X4_finds
theorem dX4_turnDown_0 : decode cX4_turnDown 0 = .ok (.aload_n 0, 1) := by decide +kernel
theorem dX4_turnDown_1 : decode cX4_turnDown 1 = .ok (.iload_n 1, 1) := by decide +kernel
theorem dX4_turnDown_2 : decode cX4_turnDown 2 = .ok (.invokevirtual 60, 3) := by decide +kernel
theorem dX4_turnDown_5 : decode cX4_turnDown 5 = .ok (.ifCond .eq 15, 3) := by decide +kernel
theorem dX4_turnDown_8 : decode cX4_turnDown 8 = .ok (.aload_n 0, 1) := by decide +kernel
theorem dX4_turnDown_9 : decode cX4_turnDown 9 = .ok (.iload_n 2, 1) := by decide +kernel
theorem dX4_turnDown_10 : decode cX4_turnDown 10 = .ok (.invokevirtual 60, 3) := by decide +kernel
theorem dX4_turnDown_13 : decode cX4_turnDown 13 = .ok (.ifCond .eq 7, 3) := by decide +kernel
theorem dX4_turnDown_16 : decode cX4_turnDown 16 = .ok (.iconst 1, 1) := by decide +kernel
theorem dX4_turnDown_17 : decode cX4_turnDown 17 = .ok (.goto 4, 3) := by decide +kernel
theorem dX4_turnDown_20 : decode cX4_turnDown 20 = .ok (.iconst 0, 1) := by decide +kernel
theorem dX4_turnDown_21 : decode cX4_turnDown 21 = .ok (.istore 4, 2) := by decide +kernel
theorem dX4_turnDown_23 : decode cX4_turnDown 23 = .ok (.aload_n 0, 1) := by decide +kernel
theorem dX4_turnDown_24 : decode cX4_turnDown 24 = .ok (.iload 4, 2) := by decide +kernel
theorem dX4_turnDown_26 : decode cX4_turnDown 26 = .ok (.ifCond .ne 7, 3) := by decide +kernel
theorem dX4_turnDown_29 : decode cX4_turnDown 29 = .ok (.iconst 1, 1) := by decide +kernel
theorem dX4_turnDown_30 : decode cX4_turnDown 30 = .ok (.goto 26, 3) := by decide +kernel
theorem dX4_turnDown_33 : decode cX4_turnDown 33 = .ok (.iload_n 1, 1) := by decide +kernel
theorem dX4_turnDown_34 : decode cX4_turnDown 34 = .ok (.iload_n 2, 1) := by decide +kernel
theorem dX4_turnDown_35 : decode cX4_turnDown 35 = .ok (.if_icmp .ne 7, 3) := by decide +kernel
theorem dX4_turnDown_38 : decode cX4_turnDown 38 = .ok (.iconst 2, 1) := by decide +kernel
theorem dX4_turnDown_39 : decode cX4_turnDown 39 = .ok (.goto 17, 3) := by decide +kernel
theorem dX4_turnDown_42 : decode cX4_turnDown 42 = .ok (.aload_n 0, 1) := by decide +kernel
theorem dX4_turnDown_43 : decode cX4_turnDown 43 = .ok (.iload_n 1, 1) := by decide +kernel
theorem dX4_turnDown_44 : decode cX4_turnDown 44 = .ok (.iload_n 2, 1) := by decide +kernel
theorem dX4_turnDown_45 : decode cX4_turnDown 45 = .ok (.invokevirtual 108, 3) := by decide +kernel
theorem dX4_turnDown_48 : decode cX4_turnDown 48 = .ok (.ifCond .ne 7, 3) := by decide +kernel
theorem dX4_turnDown_51 : decode cX4_turnDown 51 = .ok (.iconst 3, 1) := by decide +kernel
theorem dX4_turnDown_52 : decode cX4_turnDown 52 = .ok (.goto 4, 3) := by decide +kernel
theorem dX4_turnDown_55 : decode cX4_turnDown 55 = .ok (.iconst 0, 1) := by decide +kernel
theorem dX4_turnDown_56 : decode cX4_turnDown 56 = .ok (.invokevirtual 46, 3) := by decide +kernel
theorem dX4_turnDown_59 : decode cX4_turnDown 59 = .ok (.ifCond .ne 5, 3) := by decide +kernel
theorem dX4_turnDown_62 : decode cX4_turnDown 62 = .ok (.iconst 0, 1) := by decide +kernel
theorem dX4_turnDown_63 : decode cX4_turnDown 63 = .ok (.ireturn, 1) := by decide +kernel
theorem dX4_turnDown_64 : decode cX4_turnDown 64 = .ok (.aload_n 0, 1) := by decide +kernel
theorem dX4_turnDown_65 : decode cX4_turnDown 65 = .ok (.getfield 22, 3) := by decide +kernel
theorem dX4_turnDown_68 : decode cX4_turnDown 68 = .ok (.iload_n 1, 1) := by decide +kernel
theorem dX4_turnDown_69 : decode cX4_turnDown 69 = .ok (.dup2, 1) := by decide +kernel
theorem dX4_turnDown_70 : decode cX4_turnDown 70 = .ok (.iaload, 1) := by decide +kernel
theorem dX4_turnDown_71 : decode cX4_turnDown 71 = .ok (.iload_n 3, 1) := by decide +kernel
theorem dX4_turnDown_72 : decode cX4_turnDown 72 = .ok (.ifCond .eq 9, 3) := by decide +kernel
theorem dX4_turnDown_75 : decode cX4_turnDown 75 = .ok (.iconst 1, 1) := by decide +kernel
theorem dX4_turnDown_76 : decode cX4_turnDown 76 = .ok (.iload_n 2, 1) := by decide +kernel
theorem dX4_turnDown_77 : decode cX4_turnDown 77 = .ok (.ishl, 1) := by decide +kernel
theorem dX4_turnDown_78 : decode cX4_turnDown 78 = .ok (.goto 4, 3) := by decide +kernel
theorem dX4_turnDown_81 : decode cX4_turnDown 81 = .ok (.iconst 0, 1) := by decide +kernel
theorem dX4_turnDown_82 : decode cX4_turnDown 82 = .ok (.ior, 1) := by decide +kernel
theorem dX4_turnDown_83 : decode cX4_turnDown 83 = .ok (.iastore, 1) := by decide +kernel
theorem dX4_turnDown_84 : decode cX4_turnDown 84 = .ok (.aload_n 0, 1) := by decide +kernel
theorem dX4_turnDown_85 : decode cX4_turnDown 85 = .ok (.getfield 22, 3) := by decide +kernel
theorem dX4_turnDown_88 : decode cX4_turnDown 88 = .ok (.iload_n 2, 1) := by decide +kernel
theorem dX4_turnDown_89 : decode cX4_turnDown 89 = .ok (.dup2, 1) := by decide +kernel
theorem dX4_turnDown_90 : decode cX4_turnDown 90 = .ok (.iaload, 1) := by decide +kernel
theorem dX4_turnDown_91 : decode cX4_turnDown 91 = .ok (.iload_n 3, 1) := by decide +kernel
theorem dX4_turnDown_92 : decode cX4_turnDown 92 = .ok (.ifCond .eq 9, 3) := by decide +kernel
theorem dX4_turnDown_95 : decode cX4_turnDown 95 = .ok (.iconst 1, 1) := by decide +kernel
theorem dX4_turnDown_96 : decode cX4_turnDown 96 = .ok (.iload_n 1, 1) := by decide +kernel
theorem dX4_turnDown_97 : decode cX4_turnDown 97 = .ok (.ishl, 1) := by decide +kernel
theorem dX4_turnDown_98 : decode cX4_turnDown 98 = .ok (.goto 4, 3) := by decide +kernel
theorem dX4_turnDown_101 : decode cX4_turnDown 101 = .ok (.iconst 0, 1) := by decide +kernel
theorem dX4_turnDown_102 : decode cX4_turnDown 102 = .ok (.ior, 1) := by decide +kernel
theorem dX4_turnDown_103 : decode cX4_turnDown 103 = .ok (.iastore, 1) := by decide +kernel
theorem dX4_turnDown_104 : decode cX4_turnDown 104 = .ok (.aload_n 0, 1) := by decide +kernel
theorem dX4_turnDown_105 : decode cX4_turnDown 105 = .ok (.getfield 25, 3) := by decide +kernel
theorem dX4_turnDown_108 : decode cX4_turnDown 108 = .ok (.iload_n 1, 1) := by decide +kernel
theorem dX4_turnDown_109 : decode cX4_turnDown 109 = .ok (.dup2, 1) := by decide +kernel
theorem dX4_turnDown_110 : decode cX4_turnDown 110 = .ok (.iaload, 1) := by decide +kernel
theorem dX4_turnDown_111 : decode cX4_turnDown 111 = .ok (.iload_n 3, 1) := by decide +kernel
theorem dX4_turnDown_112 : decode cX4_turnDown 112 = .ok (.ifCond .eq 7, 3) := by decide +kernel
theorem dX4_turnDown_115 : decode cX4_turnDown 115 = .ok (.iconst 0, 1) := by decide +kernel
theorem dX4_turnDown_116 : decode cX4_turnDown 116 = .ok (.goto 6, 3) := by decide +kernel
theorem dX4_turnDown_119 : decode cX4_turnDown 119 = .ok (.iconst 1, 1) := by decide +kernel
theorem dX4_turnDown_120 : decode cX4_turnDown 120 = .ok (.iload_n 2, 1) := by decide +kernel
theorem dX4_turnDown_121 : decode cX4_turnDown 121 = .ok (.ishl, 1) := by decide +kernel
theorem dX4_turnDown_122 : decode cX4_turnDown 122 = .ok (.ior, 1) := by decide +kernel
theorem dX4_turnDown_123 : decode cX4_turnDown 123 = .ok (.iastore, 1) := by decide +kernel
theorem dX4_turnDown_124 : decode cX4_turnDown 124 = .ok (.aload_n 0, 1) := by decide +kernel
theorem dX4_turnDown_125 : decode cX4_turnDown 125 = .ok (.getfield 25, 3) := by decide +kernel
theorem dX4_turnDown_128 : decode cX4_turnDown 128 = .ok (.iload_n 2, 1) := by decide +kernel
theorem dX4_turnDown_129 : decode cX4_turnDown 129 = .ok (.dup2, 1) := by decide +kernel
theorem dX4_turnDown_130 : decode cX4_turnDown 130 = .ok (.iaload, 1) := by decide +kernel
theorem dX4_turnDown_131 : decode cX4_turnDown 131 = .ok (.iload_n 3, 1) := by decide +kernel
theorem dX4_turnDown_132 : decode cX4_turnDown 132 = .ok (.ifCond .eq 7, 3) := by decide +kernel
theorem dX4_turnDown_135 : decode cX4_turnDown 135 = .ok (.iconst 0, 1) := by decide +kernel
theorem dX4_turnDown_136 : decode cX4_turnDown 136 = .ok (.goto 6, 3) := by decide +kernel
theorem dX4_turnDown_139 : decode cX4_turnDown 139 = .ok (.iconst 1, 1) := by decide +kernel
theorem dX4_turnDown_140 : decode cX4_turnDown 140 = .ok (.iload_n 1, 1) := by decide +kernel
theorem dX4_turnDown_141 : decode cX4_turnDown 141 = .ok (.ishl, 1) := by decide +kernel
theorem dX4_turnDown_142 : decode cX4_turnDown 142 = .ok (.ior, 1) := by decide +kernel
theorem dX4_turnDown_143 : decode cX4_turnDown 143 = .ok (.iastore, 1) := by decide +kernel
theorem dX4_turnDown_144 : decode cX4_turnDown 144 = .ok (.aload_n 0, 1) := by decide +kernel
theorem dX4_turnDown_145 : decode cX4_turnDown 145 = .ok (.invokevirtual 104, 3) := by decide +kernel
theorem dX4_turnDown_148 : decode cX4_turnDown 148 = .ok (.ireturn, 1) := by decide +kernel
end
section
/-! WORLDS BY AN INDEX MAP: cell i of n lies at ad i and holds f i -/
def wl (ad : Nat → Nat) (f : Nat → va_E) (n : Nat) : va_W := (List.range n).map (fun i => (ad i, f i))
theorem wl_at {ad : Nat → Nat} {f : Nat → va_E} {n k : Nat} (h : k < n) : (wl ad f n)[k]? = some (ad k, f k) := by
  unfold wl
  rw [List.getElem?_map, List.getElem?_range h]
  rfl
theorem wl_len {ad : Nat → Nat} {f : Nat → va_E} {n : Nat} : (wl ad f n).length = n := by simp [wl]
theorem wl_of {ad : Nat → Nat} {f : Nat → va_E} {n k : Nat} {q : Nat × va_E} (h : (wl ad f n)[k]? = some q) : k < n ∧ q = (ad k, f k) := by
  have hl := (List.getElem?_eq_some_iff.mp h).1
  rw [wl_len] at hl
  rw [wl_at hl] at h
  exact ⟨hl, (Option.some.inj h).symm⟩
theorem wl_set {ad : Nat → Nat} {f : Nat → va_E} {n k : Nat} (e : va_E) (h : k < n) : (wl ad f n).set k (ad k, e) = wl ad (va_up f k e) n := by
  apply List.ext_getElem?
  intro j
  by_cases hj : j = k
  · subst hj
    rw [List.getElem?_set_self (by rw [wl_len]; exact h), wl_at h, va_up_self]
  · rw [List.getElem?_set_ne (Ne.symm hj)]
    by_cases hjn : j < n
    · rw [wl_at hjn, wl_at hjn, va_up_ne _ _ hj]
    · rw [List.getElem?_eq_none (by rw [wl_len]; omega), List.getElem?_eq_none (by rw [wl_len]; omega)]
/-- the addresses are apart, and of a kind -/
def wD (A : Nat → Prop) (ad : Nat → Nat) (n : Nat) : Prop := (∀ i j, i < n → j < n → ad i = ad j → i = j) ∧ ∀ k, k < n → A (ad k)
theorem wD.to {A : Nat → Prop} {ad : Nat → Nat} {n : Nat} (h : wD A ad n) (f : Nat → va_E) : va_D A (wl ad f n) := by
  refine ⟨fun i j p q hi hj e => ?_, fun k q hk => ?_⟩
  · obtain ⟨h1, rfl⟩ := wl_of hi
    obtain ⟨h2, rfl⟩ := wl_of hj
    exact h.1 i j h1 h2 e
  · obtain ⟨h1, rfl⟩ := wl_of hk
    exact h.2 k h1
theorem wD.any {A B : Nat → Prop} {ad : Nat → Nat} {n : Nat} (h : wD A ad n) (hB : ∀ k, k < n → B (ad k)) : wD B ad n := ⟨h.1, hB⟩
def wA (ad : Nat → Nat) (n : Nat) : Nat → Prop := fun q => ∃ k, k < n ∧ q = ad k
theorem wA.in {ad : Nat → Nat} {n k : Nat} (h : k < n) : wA ad n (ad k) := ⟨k, h, rfl⟩
/-- what the tables say beside the good words: the nest mates' links -/
def tF (U : State) : Prop := va_Nw (.fieldLinkNest RX3 46 RX0 "count" "I" RX3) U ∧ va_Nw (.methodLinkNest RX0 34 yX3_has RX3) U ∧ va_Nw (.methodLinkNest RX1 18 yX3_has RX3) U ∧ va_Nw (.methodLinkNest RX2 20 yX3_has RX3) U
theorem tF.warm {s U : State} (hW : s.WarmedH U.vm) (h : tF s) : tF U := ⟨va_Nw.warmF hW h.1, va_Nw.warmM hW h.2.1, va_Nw.warmM hW h.2.2.1, va_Nw.warmM hW h.2.2.2⟩
/-- a method's start: the world f of n cells -/
def pX (D : va_G) (tys : List (ClassId × FieldType)) (ad : Nat → Nat) (f : Nat → va_E) (n : Nat) (U : State) : Prop := va_P D vwCl (wl ad f n) U.heap ∧ va_K D vwCl tys U ∧ wD (fun _ => True) ad n ∧ tF U
theorem pX.blind {D : va_G} {tys : List (ClassId × FieldType)} {ad : Nat → Nat} {f : Nat → va_E} {n : Nat} {As : List Value} : FrameBlind (va_Pc As (pX D tys ad f n)) := by
  intro a U g mk ⟨h1, hP, hK, hD, hT⟩
  exact ⟨h1, hP, va_K.moved (u := U) (U := U.calling g mk a) (Vm.Alike.refl U.vm) hK, hD, hT⟩
theorem pX.of {D : va_G} {tys : List (ClassId × FieldType)} {ad : Nat → Nat} {f : Nat → va_E} {n : Nat} {A : Nat → Prop} {s : State} {H : Heap} (hP : va_P D vwCl (wl ad f n) H) (hK : va_K D vwCl tys s) (hD : wD A ad n) (hT : tF s) : ∀ U : State, U.heap = H → s.WarmedH U.vm → pX D tys ad f n U :=
  fun U hU hW => ⟨by rw [hU]; exact hP, va_K.moved hW.alike hK, hD.any (fun _ _ => trivial), hT.warm hW⟩
theorem tt.blind {As : List Value} : FrameBlind (va_Pc As (fun _ => True)) := fun _ _ _ _ h => h
/-- returns r, and the heap is as it was -/
def qR (r : Option Value) : Array Value → State → Outcome → State → Prop := fun _ st o t => o = .returned r ∧ t.heap = st.heap
/-- returns r, the world is f, nothing else has changed -/
def qW (D : va_G) (ad : Nat → Nat) (f : Nat → va_E) (n : Nat) (r : Option Value) : Array Value → State → Outcome → State → Prop := fun _ st o t => o = .returned r ∧ va_P D vwCl (wl ad f n) t.heap ∧ va_F (wA ad n) st t ∧ t.heap.size = st.heap.size
def nF : Addr → Prop := fun _ => False
/-- since H0 the world's cells alone have changed, and none is new -/
def sS (A : Nat → Prop) (H0 H : Heap) (locs : List Loc) : Prop := va_S A H0 H locs ∧ H.size = H0.size
theorem sS.rf {A : Nat → Prop} {H0 : Heap} : sS A H0 H0 [] := ⟨va_S.rf, rfl⟩
section CMR
variable {p : Program} {l : Launch} {e : Env} {R : Room} {s : State} {m : MethodId} {args : Array Value} {below : List Frame} {meth : Method} {c : Code} {H : Heap} {locs : List Loc} {cells slots : Nat} {Q : State → Prop}
variable {cc : ByteArray} {pc : Nat} {ls : Array Slot} {rest st0 : List Value} {D : va_G} {A : Nat → Prop} {tys : List (ClassId × FieldType)} {H0 : Heap} {ad : Nat → Nat} {f f' : Nat → va_E} {N : Nat}
theorem r_top {v v' : Value} (h : v = v') (kk : W p l e R s m args below meth c H locs cells slots Q (F0 m pc ls (v' :: rest))) : W p l e R s m args below meth c H locs cells slots Q (F0 m pc ls (v :: rest)) := by rw [h]; exact kk
theorem r_topi {x x' : Int32} (h : x = x') (kk : W p l e R s m args below meth c H locs cells slots Q (F0 m pc ls (.int x' :: rest))) : W p l e R s m args below meth c H locs cells slots Q (F0 m pc ls (.int x :: rest)) := by rw [h]; exact kk
theorem r_addN (hx : p.tables.exec = Jvm.exec) (hb : c.code = cc) {a b r : Nat} (hdg : decode cc pc = .ok (.iadd, 1)) (hr : a + b = r) (kk : W p l e R s m args below meth c H locs cells slots Q (F0 m (pc + 1) ls (.int (nI r) :: rest))) : W p l e R s m args below meth c H locs cells slots Q (F0 m pc ls (.int (nI b) :: .int (nI a) :: rest)) := lv_iadd hx hb hdg (by rw [nI_add, hr]; exact kk)
theorem r_mulN (hx : p.tables.exec = Jvm.exec) (hb : c.code = cc) {a b r : Nat} (hdg : decode cc pc = .ok (.imul, 1)) (hr : a * b = r) (kk : W p l e R s m args below meth c H locs cells slots Q (F0 m (pc + 1) ls (.int (nI r) :: rest))) : W p l e R s m args below meth c H locs cells slots Q (F0 m pc ls (.int (nI b) :: .int (nI a) :: rest)) := lv_imul hx hb hdg (by rw [pk_mul, hr]; exact kk)
theorem r_subN (hx : p.tables.exec = Jvm.exec) (hb : c.code = cc) {a b r : Nat} (hdg : decode cc pc = .ok (.isub, 1)) (hle : b ≤ a) (hr : a - b = r) (kk : W p l e R s m args below meth c H locs cells slots Q (F0 m (pc + 1) ls (.int (nI r) :: rest))) : W p l e R s m args below meth c H locs cells slots Q (F0 m pc ls (.int (nI b) :: .int (nI a) :: rest)) := lv_isub hx hb hdg (by rw [pk_sub hle, hr]; exact kk)
theorem r_iincN (hx : p.tables.exec = Jvm.exec) (hb : c.code = cc) {i nL k : Nat} {d a r : Nat} {lv lv' : List (Nat × Value)} (hdg : decode cc pc = .ok (.iinc i (d : Int), 3)) (h : lv_has ls nL lv) (hk : lv[k]? = some (i, .int (nI a))) (hr : a + d = r) (hn : i < nL) (hl : (i, Value.int (nI r)) :: lv.filter (fun q => !(q.1 == i) && !(q.1 + 1 == i && q.2.category == 2)) = lv')
    (kk : ∀ ls' : Array Slot, lv_has ls' nL lv' → W p l e R s m args below meth c H locs cells slots Q (F0 m (pc + 3) ls' rest)) : W p l e R s m args below meth c H locs cells slots Q (F0 m pc ls rest) :=
  lv_iinc hx hb hdg h hk (by rw [← hr, ← nI_add]; rfl) hn hl kk
/-- an int array's element, by a number -/
theorem r_iald (hx : p.tables.exec = Jvm.exec) (hb : c.code = cc) (hK : va_K D vwCl tys s) (hP : va_P D vwCl (wl ad f N) H) (k t0 : Nat) (hk : k < N) {cA : ClassId} {n : Nat} {g : Nat → Int32} (ha : f k = .inl (cA, n, .inl g)) (ht : tys[t0]? = some (cA, .int)) {i : Nat} (hi : i < n) (hn : n < 2 ^ 31) (hdg : decode cc pc = .ok (.iaload, 1))
    (kk : W p l e R s m args below meth c H locs cells slots Q (F0 m (pc + 1) ls (.int (g i) :: rest))) : W p l e R s m args below meth c H locs cells slots Q (F0 m pc ls (.int (nI i) :: .ref (ad k) :: rest)) :=
  va_iald hx hb hK hP k t0 ((wl_at hk).trans (by rw [ha])) ht (vp_in_nI hi hn) hdg (by rw [nI_clamp (by omega)]; exact kk)
theorem r_iast (hx : p.tables.exec = Jvm.exec) (hb : c.code = cc) (hK : va_K D vwCl tys s) (hP : va_P D vwCl (wl ad f N) H) (hD : wD A ad N) (hS : sS A H0 H locs) (k t0 : Nat) (hk : k < N) {cA : ClassId} {n : Nat} {g : Nat → Int32} (ha : f k = .inl (cA, n, .inl g)) (ht : tys[t0]? = some (cA, .int)) {i : Nat} (hi : i < n) (hn : n < 2 ^ 31) {x : Int32} (hf : va_up f k (.inl (cA, n, .inl (upd g i x))) = f') (hdg : decode cc pc = .ok (.iastore, 1))
    (kk : ∀ (H1 : Heap) (locs1 : List Loc), va_P D vwCl (wl ad f' N) H1 → sS A H0 H1 locs1 → W p l e R s m args below meth c H1 locs1 cells slots Q (F0 m (pc + 1) ls rest)) : W p l e R s m args below meth c H locs cells slots Q (F0 m pc ls (.int x :: .int (nI i) :: .ref (ad k) :: rest)) := by
  have he : (wl ad f N)[k]? = some (ad k, .inl (cA, n, .inl g)) := (wl_at hk).trans (by rw [ha])
  refine W.iast hx hb (hP k _ he) ((hK.2 t0 _ ht).1 n (fun j => .int (g j))) (fun q => by cases q) (by show ¬ (nI i < 0 ∨ (arrV _ _ _).slots.size ≤ _); rw [arrV_size]; exact vp_in_nI hi hn) rfl rfl hdg fun H1 e1 z oq => ?_
  have hat : va_at D vwCl (ad k, .inl (cA, n, .inl (upd g i x))) H1 := by
    show H1[ad k]? = some (vp_cell _ _)
    rw [e1]
    rw [vp_cell_i, vp_cell_i, arrV_store, nI_clamp (by omega)]
    congr 2
    funext q
    by_cases hq : q = i
    · subst hq
      simp [updV, upd]
    · simp [updV, upd, hq]
  have h1 := hP.set (hD.to f) he hat oq
  rw [wl_set _ hk, hf] at h1
  exact kk H1 _ h1 ⟨hS.1.put z oq (hD.2 k hk), z.trans hS.2⟩
/-- a row of an array of arrays, by a number -/
theorem r_aald (hx : p.tables.exec = Jvm.exec) (hb : c.code = cc) (hK : va_K D vwCl tys s) (hP : va_P D vwCl (wl ad f N) H) (k t0 : Nat) (hk : k < N) {cA : ClassId} {n : Nat} {g : Nat → Nat} (ha : f k = .inl (cA, n, .inr (.inr (.inr (.inr (fun j => some (ad (g j)))))))) (ht : tys[t0]? = some (cA, .array .int)) {i : Nat} (hi : i < n) (hn : n < 2 ^ 31) (hdg : decode cc pc = .ok (.aaload, 1))
    (kk : W p l e R s m args below meth c H locs cells slots Q (F0 m (pc + 1) ls (.ref (ad (g i)) :: rest))) : W p l e R s m args below meth c H locs cells slots Q (F0 m pc ls (.int (nI i) :: .ref (ad k) :: rest)) := by
  have he : (wl ad f N)[k]? = some (ad k, .inl (cA, n, .inr (.inr (.inr (.inr (fun j => some (ad (g j)))))))) := (wl_at hk).trans (by rw [ha])
  refine W.aald (v := .ref (ad (g i))) (ty := .array .int) hx hb (hP k _ he) ((hK.2 t0 _ ht).1 n (fun j => va_rf (some (ad (g j))))) rfl (fun q => by cases q) (by show ¬ (nI i < 0 ∨ (arrV _ _ _).slots.size ≤ _); rw [arrV_size]; exact vp_in_nI hi hn) ?_ rfl rfl hdg kk
  show (arrV _ _ _).slots[_]? = _
  rw [nI_clamp (by omega), arrV_read _ _ hi]
  rfl
/-- a field -/
theorem r_get (hx : p.tables.exec = Jvm.exec) (hb : c.code = cc) {own C : String} {T : u_T} {M ci index : Nat} {Ts : List Cond} (hts : ∀ w ∈ Ts, w.before args s = true) (hin : ∀ w ∈ u_ws C T M, w ∈ Ts) (hown : s.vm.findClass own = some m.cls) (hK : va_K D vwCl tys s) (hP : va_P D vwCl (wl ad f N) H) (k : Nat) (hk : k < N) {fs : List Value} (ha : f k = .inr (ci, fs)) (hc : vwCl[ci]? = some (C, T, M)) (j : Nat) (hj : j < M) {fd fo : String} (hfo : T j = (C, fd, fo, (T j).2.2.2)) (hlink : Cond.fieldLink own index C fd fo ∈ Ts) {v : Value} (hv : fs[j]? = some v) (hdg : decode cc pc = .ok (.getfield index, 3))
    (kk : W p l e R s m args below meth c H locs cells slots Q (F0 m (pc + 3) ls (v :: rest))) : W p l e R s m args below meth c H locs cells slots Q (F0 m pc ls (.ref (ad k) :: rest)) := by
  have e1 : (T j).1 = C := by rw [hfo]
  have e2 : (T j).2.1 = fd := by rw [hfo]
  have e3 : (T j).2.2.1 = fo := by rw [hfo]
  exact va_get (ref := C) (ci := ci) (T := T) (N := M) hx hb hts hin hown hK hP k ((wl_at hk).trans (by rw [ha])) hc j hj (by rw [e2, e3]; exact hts _ hlink) (by rw [e1]; exact fun _ h => h) hv hdg kk
theorem r_put (hx : p.tables.exec = Jvm.exec) (hb : c.code = cc) {own C : String} {T : u_T} {M ci index : Nat} {Ts : List Cond} (hts : ∀ w ∈ Ts, w.before args s = true) (hin : ∀ w ∈ u_ws C T M, w ∈ Ts) (ty0 : Nat → FieldType) (hty : ∀ k, k < M → parseFieldDescriptor (T k).2.2.1 = some (ty0 k)) (hnm : ∀ a, a < M → ∀ b, b < M → a ≠ b → (T a).2.1 ≠ (T b).2.1) (hown : s.vm.findClass own = some m.cls) (hK : va_K D vwCl tys s) (hP : va_P D vwCl (wl ad f N) H) (hD : wD A ad N) (hS : sS A H0 H locs) (k : Nat) (hk : k < N) {fs : List Value} (ha : f k = .inr (ci, fs)) (hc : vwCl[ci]? = some (C, T, M)) (j : Nat) (hj : j < M) {fd : String} (hfo : T j = (C, fd, "I", false)) (hlink : Cond.fieldLink own index C fd "I" ∈ Ts) (hl : j < fs.length) {x : Int32} (hf : va_up f k (.inr (ci, fs.set j (.int x))) = f') (hdg : decode cc pc = .ok (.putfield index, 3))
    (kk : ∀ (H1 : Heap) (locs1 : List Loc), va_P D vwCl (wl ad f' N) H1 → sS A H0 H1 locs1 → W p l e R s m args below meth c H1 locs1 cells slots Q (F0 m (pc + 3) ls rest)) : W p l e R s m args below meth c H locs cells slots Q (F0 m pc ls (.int x :: .ref (ad k) :: rest)) := by
  have e1 : (T j).1 = C := by rw [hfo]
  have e2 : (T j).2.1 = fd := by rw [hfo]
  have e3 : (T j).2.2.1 = "I" := by rw [hfo]
  have he : (wl ad f N)[k]? = some (ad k, .inr (ci, fs)) := (wl_at hk).trans (by rw [ha])
  have hap := va_apart (own := own) hts hin ty0 hty hnm hK hc
  obtain ⟨r, h1, cell, q1, q2, q3, q4⟩ := hP k _ he
  have hr : r = (C, T, M) := Option.some.inj (h1.symm.trans hc)
  subst hr
  obtain ⟨hSl, hfc, kC, hkC, hkind⟩ := hK.1 ci _ hc
  obtain ⟨cf, kf, fi, fl, hi, hsl⟩ := hSl j hj
  have hlay := hts _ (hin _ (u_in_lay hj))
  unfold u_lay at hlay
  rw [if_neg (by rw [hfo]; exact Bool.false_ne_true)] at hlay
  have hst := (u_facts hfc hkC (u_lays hts hin hj) hi).1
  have h6 := u_store (v := .int x) (ty := .int) hfc hkC hkind hlay hi (by rw [e3]; decide +kernel) rfl rfl
  refine W.putK hx hb (own := own) (ref := C) (f := fl) ⟨hown, hts _ hlink, ⟨_, _, _, by rw [← e1, ← e2, ← e3]; exact hi⟩, hst⟩ (by rw [q2]; exact h6) q1 q3 (by rw [hsl]; exact k2_hasslot (q4 j hj)) rfl rfl hdg fun H' g1 g2 g3 => ?_
  rw [hsl] at g1
  have h2 := hP.set (hD.to f) he (e := .inr (ci, fs.set j (.int x))) ⟨_, hc, t_OB.to (V := updV (vp_V fs) j (.int x)) ⟨_, g1, q2, q3, t_set q4 hap hj (.int x)⟩ (fun i _ => vp_updV_set hl (.int x) i)⟩ g3
  rw [wl_set _ hk, hf] at h2
  rw [hsl]
  exact kk H' _ h2 ⟨hS.1.put g2 g3 (hD.2 k hk), g2.trans hS.2⟩
/-- an end that left the heap alone -/
theorem r_iret {v : Int32} (hx : p.tables.exec = Jvm.exec) (hb : c.code = cc) (hr : meth.sig.returnType = some .int) (hlocks : meth.locks = false) (hdg : decode cc pc = .ok (.ireturn, 1)) {v' : Int32} (hv : v = v') : W p l e R s m args below meth c s.heap [] cells slots (MQ below (qR (some (.int v'))) args s cells slots nF) (F0 m pc ls [.int v]) := by
  subst hv
  exact W.iret hx hb hr (fun t ht hW => ⟨rfl, ht⟩) (fun _ h => by cases h) hdg hlocks
def bI (b : Bool) : Int32 := if b = true then nI 1 else nI 0
theorem r_zret {v : Int32} (hx : p.tables.exec = Jvm.exec) (hb : c.code = cc) (hr : meth.sig.returnType = some .boolean) (hlocks : meth.locks = false) (hdg : decode cc pc = .ok (.ireturn, 1)) {b : Bool} (hv : v = bI b) : W p l e R s m args below meth c s.heap [] cells slots (MQ below (qR (some (.int (bI b)))) args s cells slots nF) (F0 m pc ls [.int v]) := by
  subst hv
  exact W.zret (ty := .boolean) hx hb hr (by cases b <;> decide) (fun t ht hW => ⟨rfl, ht⟩) (fun _ h => by cases h) hdg hlocks
theorem r_iretW {v : Int32} (hx : p.tables.exec = Jvm.exec) (hb : c.code = cc) (hr : meth.sig.returnType = some .int) (hlocks : meth.locks = false) (hP : va_P D vwCl (wl ad f N) H) (hS : sS (wA ad N) s.heap H locs) (hdg : decode cc pc = .ok (.ireturn, 1)) {v' : Int32} (hv : v = v') (hf : f = f') : W p l e R s m args below meth c H locs cells slots (MQ below (qW D ad f' N (some (.int v'))) args s cells slots (wA ad N)) (F0 m pc ls [.int v]) := by
  subst hv
  subst hf
  exact W.iret hx hb hr (fun t ht hW => ⟨rfl, by rw [ht]; exact hP, hS.1.F ht, by rw [ht]; exact hS.2⟩) hS.1.2.2 hdg hlocks
theorem r_zretW {v : Int32} (hx : p.tables.exec = Jvm.exec) (hb : c.code = cc) (hr : meth.sig.returnType = some .boolean) (hlocks : meth.locks = false) (hP : va_P D vwCl (wl ad f N) H) (hS : sS (wA ad N) s.heap H locs) (hdg : decode cc pc = .ok (.ireturn, 1)) {b : Bool} (hv : v = bI b) (hf : f = f') : W p l e R s m args below meth c H locs cells slots (MQ below (qW D ad f' N (some (.int (bI b)))) args s cells slots (wA ad N)) (F0 m pc ls [.int v]) := by
  subst hv
  subst hf
  exact W.zret (ty := .boolean) hx hb hr (by cases b <;> decide) (fun t ht hW => ⟨rfl, by rw [ht]; exact hP, hS.1.F ht, by rw [ht]; exact hS.2⟩) hS.1.2.2 hdg hlocks
theorem r_vretW (hx : p.tables.exec = Jvm.exec) (hb : c.code = cc) (hr : meth.sig.returnType = none) (hlocks : meth.locks = false) (hP : va_P D vwCl (wl ad f N) H) (hS : sS (wA ad N) s.heap H locs) (hdg : decode cc pc = .ok (.return_, 1)) (hf : f = f') : W p l e R s m args below meth c H locs cells slots (MQ below (qW D ad f' N none) args s cells slots (wA ad N)) (F0 m pc ls []) := by
  subst hf
  exact W.vret hx hb hr (fun t ht hW => ⟨rfl, by rw [ht]; exact hP, hS.1.F ht, by rw [ht]; exact hS.2⟩) hS.1.2.2 hdg hlocks
theorem r_vret (hx : p.tables.exec = Jvm.exec) (hb : c.code = cc) (hr : meth.sig.returnType = none) (hlocks : meth.locks = false) (hdg : decode cc pc = .ok (.return_, 1)) : W p l e R s m args below meth c s.heap [] cells slots (MQ below (qR none) args s cells slots nF) (F0 m pc ls []) :=
  W.vret hx hb hr (fun t ht hW => ⟨rfl, ht⟩) (fun _ h => by cases h) hdg hlocks
/-- behind a call that leaves the heap alone -/
theorem k_R {r : Option Value} {av : Array Value} (hr : va_Run p l e R s m args below meth c H locs cells slots 0 0 (F0 m pc ls st0) rest (qR r av) nF) (kk : W p l e R s m args below meth c H locs cells slots Q (F0 m (pc + 3) ls (r.toList ++ rest))) : W p l e R s m args below meth c H locs cells slots Q (F0 m pc ls st0) := by
  intro T hT X
  obtain ⟨v, st₀, t, T', L, h0, X', hL, e1, e2, ⟨hv, hh⟩, st⟩ := hr T hT X
  cases hv
  have hL0 : L = [] := List.eq_nil_iff_forall_not_mem.mpr fun q hq => hL q hq
  subst hL0
  rw [List.append_nil] at X'
  obtain ⟨t2, a1, b1⟩ := kk T' (by rw [e1, hh, h0]) X'
  exact ⟨t2, st t2 a1, b1⟩
/-- behind a call that writes the world -/
theorem k_W {r : Option Value} {av : Array Value} (hr : va_Run p l e R s m args below meth c H locs cells slots 0 0 (F0 m pc ls st0) rest (qW D ad f' N r av) (wA ad N)) (hD : wD A ad N) (hS : sS A H0 H locs)
    (kk : ∀ (H1 : Heap) (locs1 : List Loc), va_P D vwCl (wl ad f' N) H1 → sS A H0 H1 locs1 → W p l e R s m args below meth c H1 locs1 cells slots Q (F0 m (pc + 3) ls (r.toList ++ rest))) : W p l e R s m args below meth c H locs cells slots Q (F0 m pc ls st0) := by
  have hA : ∀ q, wA ad N q → A q := fun q ⟨k, hk, hq⟩ => by rw [hq]; exact hD.2 k hk
  intro T hT X
  obtain ⟨v, st₀, t, T', L, h0, X', hL, e1, e2, ⟨hv, hP1, ⟨hz, hk⟩, hsz⟩, st⟩ := hr T hT X
  cases hv
  rw [h0] at hz hk hsz
  obtain ⟨t2, a1, b1⟩ := kk T'.heap (locs ++ L) (by rw [e1]; exact hP1)
    ⟨⟨Nat.le_trans hS.1.1 (by rw [e1]; exact hz), fun q h1 h2 => by rw [e1, hk q (Nat.lt_of_lt_of_le h1 hS.1.1) (fun z => h2 (hA q z))]; exact hS.1.2.1 q h1 h2, fun q hq => by
      rcases List.mem_append.mp hq with h | h
      · exact hS.1.2.2 q h
      · exact hA _ (hL q h)⟩, by rw [e1, hsz]; exact hS.2⟩ T' rfl X'
  exact ⟨t2, st t2 a1, b1⟩
end CMR
/-! STARTS of contracts -/
section CMS
variable {l : Launch} {y : MethodName} {ws ws' : List Cond} {rm : Room} {cc : ByteArray} {maxL : Nat} {ret : FieldType} {D : va_G} {tys : List (ClassId × FieldType)} {ad : Nat → Nat} {f f' : Nat → va_E} {N : Nat} {As : List Value} {r : Int32}
/-- a method that reads the world alone and answers an int -/
theorem c_ofR (hy : plainName y.cls = true) (hw : ws = Cond.code y cc maxL (some ret) :: ws') (hn : narrow ret (.int r) = .int r) (hla : (lg_sl As).length ≤ maxL)
    (body : ∀ (p : Program) (e : Env) (s : State) (m : MethodId) (av : Array Value) (below : List Frame) (meth : Method) (cd : Code) (Q : State → Prop),
      p.tables.exec = Jvm.exec → cd.code = cc → CallFix p m cd cc maxL s av ws y.cls → va_P D vwCl (wl ad f N) s.heap → va_K D vwCl tys s → wD (fun _ => True) ad N → tF s →
      (∀ (pc : Nat) (ls : Array Slot) (v : Int32), decode cc pc = .ok (.ireturn, 1) → v = r → W p l e rm s m av below meth cd s.heap [] 0 0 Q (F0 m pc ls [.int v])) →
      ∀ ls : Array Slot, lv_has ls maxL (lv_args 0 As) → W p l e rm s m av below meth cd s.heap [] 0 0 Q (F0 m 0 ls [])) :
    Met l y ws rm (va_Pc As (pX D tys ad f N)) (qR (some (.int r))) 0 0 nF := by
  refine Met.ofW (cc := cc) (maxL := maxL) (ret := some ret) hy hw ?_
  intro p e s m args below meth c s₁ B hml hv
  obtain ⟨rfl, hP, hK, hD, hT⟩ := hv
  have hr : meth.sig.returnType = some ret := B.returns
  have hl := lv_entry As (n := maxL) hla
  rw [lg_entry_eq]
  exact body p e s m _ below meth c _ B.exec B.bytes ⟨B.exec, B.bytes, hml, findClass_of_methodNamed B.named, atoms_spec (ws := ws) B.pre⟩ hP hK hD hT
    (fun pc ls v hdg hv => by subst hv; exact W.zret (ty := ret) B.exec B.bytes hr hn (fun t ht hW => ⟨rfl, ht⟩) (fun _ h => by cases h) hdg B.notSynchronized) _ hl
/-- a method that reads nothing of the heap -/
theorem c_ofP (hy : plainName y.cls = true) (hw : ws = Cond.code y cc maxL (some ret) :: ws') (hn : narrow ret (.int r) = .int r) (hla : (lg_sl As).length ≤ maxL)
    (body : ∀ (p : Program) (e : Env) (s : State) (m : MethodId) (av : Array Value) (below : List Frame) (meth : Method) (cd : Code) (Q : State → Prop),
      p.tables.exec = Jvm.exec → cd.code = cc → CallFix p m cd cc maxL s av ws y.cls →
      (∀ (pc : Nat) (ls : Array Slot) (v : Int32), decode cc pc = .ok (.ireturn, 1) → v = r → W p l e rm s m av below meth cd s.heap [] 0 0 Q (F0 m pc ls [.int v])) →
      ∀ ls : Array Slot, lv_has ls maxL (lv_args 0 As) → W p l e rm s m av below meth cd s.heap [] 0 0 Q (F0 m 0 ls [])) :
    Met l y ws rm (va_Pc As (fun _ => True)) (qR (some (.int r))) 0 0 nF := by
  refine Met.ofW (cc := cc) (maxL := maxL) (ret := some ret) hy hw ?_
  intro p e s m args below meth c s₁ B hml hv
  obtain ⟨rfl, -⟩ := hv
  have hr : meth.sig.returnType = some ret := B.returns
  have hl := lv_entry As (n := maxL) hla
  rw [lg_entry_eq]
  exact body p e s m _ below meth c _ B.exec B.bytes ⟨B.exec, B.bytes, hml, findClass_of_methodNamed B.named, atoms_spec (ws := ws) B.pre⟩
    (fun pc ls v hdg hv => by subst hv; exact W.zret (ty := ret) B.exec B.bytes hr hn (fun t ht hW => ⟨rfl, ht⟩) (fun _ h => by cases h) hdg B.notSynchronized) _ hl
/-- a method that writes the world and answers an int -/
theorem c_ofW (hy : plainName y.cls = true) (hw : ws = Cond.code y cc maxL (some ret) :: ws') (hn : narrow ret (.int r) = .int r) (hla : (lg_sl As).length ≤ maxL)
    (body : ∀ (p : Program) (e : Env) (s : State) (m : MethodId) (av : Array Value) (below : List Frame) (meth : Method) (cd : Code) (Q : State → Prop),
      p.tables.exec = Jvm.exec → cd.code = cc → CallFix p m cd cc maxL s av ws y.cls → va_P D vwCl (wl ad f N) s.heap → va_K D vwCl tys s → wD (wA ad N) ad N → tF s →
      (∀ (H : Heap) (locs : List Loc) (pc : Nat) (ls : Array Slot) (v : Int32) (f9 : Nat → va_E), va_P D vwCl (wl ad f9 N) H → sS (wA ad N) s.heap H locs → decode cc pc = .ok (.ireturn, 1) → v = r → f9 = f' → W p l e rm s m av below meth cd H locs 0 0 Q (F0 m pc ls [.int v])) →
      ∀ ls : Array Slot, lv_has ls maxL (lv_args 0 As) → W p l e rm s m av below meth cd s.heap [] 0 0 Q (F0 m 0 ls [])) :
    Met l y ws rm (va_Pc As (pX D tys ad f N)) (qW D ad f' N (some (.int r))) 0 0 (wA ad N) := by
  refine Met.ofW (cc := cc) (maxL := maxL) (ret := some ret) hy hw ?_
  intro p e s m args below meth c s₁ B hml hv
  obtain ⟨rfl, hP, hK, hD, hT⟩ := hv
  have hr : meth.sig.returnType = some ret := B.returns
  have hl := lv_entry As (n := maxL) hla
  rw [lg_entry_eq]
  exact body p e s m _ below meth c _ B.exec B.bytes ⟨B.exec, B.bytes, hml, findClass_of_methodNamed B.named, atoms_spec (ws := ws) B.pre⟩ hP hK (hD.any (fun k hk => wA.in hk)) hT
    (fun H locs pc ls v f9 hP9 hS hdg hv hf => by subst hv; subst hf; exact W.zret (ty := ret) B.exec B.bytes hr hn (fun t ht hW => ⟨rfl, by rw [ht]; exact hP9, hS.1.F ht, by rw [ht]; exact hS.2⟩) hS.1.2.2 hdg B.notSynchronized) _ hl
/-- a method that writes the world and answers nothing -/
theorem c_ofV (hy : plainName y.cls = true) (hw : ws = Cond.code y cc maxL none :: ws') (hla : (lg_sl As).length ≤ maxL)
    (body : ∀ (p : Program) (e : Env) (s : State) (m : MethodId) (av : Array Value) (below : List Frame) (meth : Method) (cd : Code) (Q : State → Prop),
      p.tables.exec = Jvm.exec → cd.code = cc → CallFix p m cd cc maxL s av ws y.cls → va_P D vwCl (wl ad f N) s.heap → va_K D vwCl tys s → wD (wA ad N) ad N → tF s →
      (∀ (H : Heap) (locs : List Loc) (pc : Nat) (ls : Array Slot) (f9 : Nat → va_E), va_P D vwCl (wl ad f9 N) H → sS (wA ad N) s.heap H locs → decode cc pc = .ok (.return_, 1) → f9 = f' → W p l e rm s m av below meth cd H locs 0 0 Q (F0 m pc ls [])) →
      ∀ ls : Array Slot, lv_has ls maxL (lv_args 0 As) → W p l e rm s m av below meth cd s.heap [] 0 0 Q (F0 m 0 ls [])) :
    Met l y ws rm (va_Pc As (pX D tys ad f N)) (qW D ad f' N none) 0 0 (wA ad N) := by
  refine Met.ofW (cc := cc) (maxL := maxL) (ret := none) hy hw ?_
  intro p e s m args below meth c s₁ B hml hv
  obtain ⟨rfl, hP, hK, hD, hT⟩ := hv
  have hr : meth.sig.returnType = none := B.returns
  have hl := lv_entry As (n := maxL) hla
  rw [lg_entry_eq]
  exact body p e s m _ below meth c _ B.exec B.bytes ⟨B.exec, B.bytes, hml, findClass_of_methodNamed B.named, atoms_spec (ws := ws) B.pre⟩ hP hK (hD.any (fun k hk => wA.in hk)) hT
    (fun H locs pc ls f9 hP9 hS hdg hf => by subst hf; exact W.vret B.exec B.bytes hr (fun t ht hW => ⟨rfl, by rw [ht]; exact hP9, hS.1.F ht, by rw [ht]; exact hS.2⟩) hS.1.2.2 hdg B.notSynchronized) _ hl
/-- a method that changes nothing and answers nothing -/
theorem c_ofU {B0 : State → Prop} (hy : plainName y.cls = true) (hw : ws = Cond.code y cc maxL none :: ws') (hla : (lg_sl As).length ≤ maxL)
    (body : ∀ (p : Program) (e : Env) (s : State) (m : MethodId) (av : Array Value) (below : List Frame) (meth : Method) (cd : Code) (Q : State → Prop),
      p.tables.exec = Jvm.exec → cd.code = cc → CallFix p m cd cc maxL s av ws y.cls → B0 s →
      (∀ (pc : Nat) (ls : Array Slot), decode cc pc = .ok (.return_, 1) → W p l e rm s m av below meth cd s.heap [] 0 0 Q (F0 m pc ls [])) →
      ∀ ls : Array Slot, lv_has ls maxL (lv_args 0 As) → W p l e rm s m av below meth cd s.heap [] 0 0 Q (F0 m 0 ls [])) :
    Met l y ws rm (va_Pc As B0) (qR none) 0 0 nF := by
  refine Met.ofW (cc := cc) (maxL := maxL) (ret := none) hy hw ?_
  intro p e s m args below meth c s₁ B hml hv
  obtain ⟨rfl, hB⟩ := hv
  have hr : meth.sig.returnType = none := B.returns
  have hl := lv_entry As (n := maxL) hla
  rw [lg_entry_eq]
  exact body p e s m _ below meth c _ B.exec B.bytes ⟨B.exec, B.bytes, hml, findClass_of_methodNamed B.named, atoms_spec (ws := ws) B.pre⟩ hB
    (fun pc ls hdg => W.vret B.exec B.bytes hr (fun t ht hW => ⟨rfl, ht⟩) (fun _ h => by cases h) hdg B.notSynchronized) _ hl
end CMS
theorem nar_bI (b : Bool) : narrow .boolean (.int (bI b)) = .int (bI b) := by cases b <;> decide
theorem down {P : Nat → Prop} (E : Nat) (he : P E) (hs : ∀ i, i < E → P (i + 1) → P i) : ∀ i, i ≤ E → P i := by
  have key : ∀ k i, i + k = E → P i := by
    intro k
    induction k with
    | zero => intro i h; rw [show i = E by omega]; exact he
    | succ k ih => intro i h; exact hs i (by omega) (ih (i + 1) (by omega))
  exact fun i h => key (E - i) i (by omega)
theorem lv_cast {ls : Array Slot} {nL : Nat} {l l' : List (Nat × Value)} (h : lv_has ls nL l) (e : l = l') : lv_has ls nL l' := e ▸ h
/-! BRANCHES on numbers and truth values; CALLS -/
section CMB
variable {p : Program} {l : Launch} {e : Env} {R : Room} {s : State} {m : MethodId} {args : Array Value} {below : List Frame} {meth : Method} {c : Code} {H : Heap} {locs : List Loc} {cells slots : Nat} {Q : State → Prop}
variable {cc : ByteArray} {pc : Nat} {ls : Array Slot} {rest st0 : List Value} {D : va_G} {A : Nat → Prop} {tys : List (ClassId × FieldType)} {H0 : Heap} {ad : Nat → Nat} {f f' : Nat → va_E} {N : Nat}
theorem bI_0 {b : Bool} : bI b = 0 ↔ b = false := by cases b <;> decide
theorem bI_n0 {b : Bool} : ¬ bI b = 0 ↔ b = true := by cases b <;> decide
theorem nI_0iff {a : Nat} (h : a < 2 ^ 31) : nI a = 0 ↔ a = 0 := by rw [← nI_0, nI_eq h (by decide)]
theorem r_ifeqB (hx : p.tables.exec = Jvm.exec) (hb : c.code = cc) {b : Bool} {off : Int} {tgt : Nat} (hdg : decode cc pc = .ok (.ifCond .eq off, 3)) (ht : (pc : Int) + off = (tgt : Int)) (kt : b = false → W p l e R s m args below meth c H locs cells slots Q (F0 m tgt ls rest)) (kf : b = true → W p l e R s m args below meth c H locs cells slots Q (F0 m (pc + 3) ls rest)) : W p l e R s m args below meth c H locs cells slots Q (F0 m pc ls (.int (bI b) :: rest)) := lv_if_eq hx hb hdg ht (fun h => kt (bI_0.mp h)) (fun h => kf (bI_n0.mp h))
theorem r_ifneB (hx : p.tables.exec = Jvm.exec) (hb : c.code = cc) {b : Bool} {off : Int} {tgt : Nat} (hdg : decode cc pc = .ok (.ifCond .ne off, 3)) (ht : (pc : Int) + off = (tgt : Int)) (kt : b = true → W p l e R s m args below meth c H locs cells slots Q (F0 m tgt ls rest)) (kf : b = false → W p l e R s m args below meth c H locs cells slots Q (F0 m (pc + 3) ls rest)) : W p l e R s m args below meth c H locs cells slots Q (F0 m pc ls (.int (bI b) :: rest)) := lv_if_ne hx hb hdg ht (fun h => kt (bI_n0.mp h)) (fun h => kf (bI_0.mp h))
theorem r_ifeqN (hx : p.tables.exec = Jvm.exec) (hb : c.code = cc) {a : Nat} {off : Int} {tgt : Nat} (ha : a < 2 ^ 31) (hdg : decode cc pc = .ok (.ifCond .eq off, 3)) (ht : (pc : Int) + off = (tgt : Int)) (kt : a = 0 → W p l e R s m args below meth c H locs cells slots Q (F0 m tgt ls rest)) (kf : a ≠ 0 → W p l e R s m args below meth c H locs cells slots Q (F0 m (pc + 3) ls rest)) : W p l e R s m args below meth c H locs cells slots Q (F0 m pc ls (.int (nI a) :: rest)) := lv_if_eq hx hb hdg ht (fun h => kt ((nI_0iff ha).mp h)) (fun h => kf (fun q => h ((nI_0iff ha).mpr q)))
theorem r_ifneN (hx : p.tables.exec = Jvm.exec) (hb : c.code = cc) {a : Nat} {off : Int} {tgt : Nat} (ha : a < 2 ^ 31) (hdg : decode cc pc = .ok (.ifCond .ne off, 3)) (ht : (pc : Int) + off = (tgt : Int)) (kt : a ≠ 0 → W p l e R s m args below meth c H locs cells slots Q (F0 m tgt ls rest)) (kf : a = 0 → W p l e R s m args below meth c H locs cells slots Q (F0 m (pc + 3) ls rest)) : W p l e R s m args below meth c H locs cells slots Q (F0 m pc ls (.int (nI a) :: rest)) := lv_if_ne hx hb hdg ht (fun h => kt (fun q => h ((nI_0iff ha).mpr q))) (fun h => kf ((nI_0iff ha).mp h))
theorem nI_nn {a : Nat} (h : a < 2 ^ 31) : ¬ nI a < 0 := nI_pos h
theorem nI_gt0 {a : Nat} (h : a < 2 ^ 31) : nI a ≤ 0 ↔ a = 0 := by rw [← nI_0, nI_leI h (by decide)]; omega
theorem r_ifltN (hx : p.tables.exec = Jvm.exec) (hb : c.code = cc) {a : Nat} {off : Int} {tgt : Nat} (ha : a < 2 ^ 31) (hdg : decode cc pc = .ok (.ifCond .lt off, 3)) (ht : (pc : Int) + off = (tgt : Int)) (kf : W p l e R s m args below meth c H locs cells slots Q (F0 m (pc + 3) ls rest)) : W p l e R s m args below meth c H locs cells slots Q (F0 m pc ls (.int (nI a) :: rest)) := lv_if_lt hx hb hdg ht (fun h => absurd h (nI_pos ha)) (fun _ => kf)
theorem r_ifleN (hx : p.tables.exec = Jvm.exec) (hb : c.code = cc) {a : Nat} {off : Int} {tgt : Nat} (ha : a < 2 ^ 31) (hdg : decode cc pc = .ok (.ifCond .le off, 3)) (ht : (pc : Int) + off = (tgt : Int)) (kt : a = 0 → W p l e R s m args below meth c H locs cells slots Q (F0 m tgt ls rest)) (kf : a ≠ 0 → W p l e R s m args below meth c H locs cells slots Q (F0 m (pc + 3) ls rest)) : W p l e R s m args below meth c H locs cells slots Q (F0 m pc ls (.int (nI a) :: rest)) := lv_if_le hx hb hdg ht (fun h => kt ((nI_gt0 ha).mp h)) (fun h => kf (fun q => h ((nI_gt0 ha).mpr q)))
theorem r_cgeN (hx : p.tables.exec = Jvm.exec) (hb : c.code = cc) {a b : Nat} {off : Int} {tgt : Nat} (ha : a < 2 ^ 31) (hb2 : b < 2 ^ 31) (hdg : decode cc pc = .ok (.if_icmp .ge off, 3)) (ht : (pc : Int) + off = (tgt : Int)) (kt : b ≤ a → W p l e R s m args below meth c H locs cells slots Q (F0 m tgt ls rest)) (kf : a < b → W p l e R s m args below meth c H locs cells slots Q (F0 m (pc + 3) ls rest)) : W p l e R s m args below meth c H locs cells slots Q (F0 m pc ls (.int (nI b) :: .int (nI a) :: rest)) := lv_icmp_ge hx hb hdg ht (fun h => kt ((nI_leI hb2 ha).mp h)) (fun h => kf (Nat.not_le.mp (fun q => h ((nI_leI hb2 ha).mpr q))))
theorem r_cltN (hx : p.tables.exec = Jvm.exec) (hb : c.code = cc) {a b : Nat} {off : Int} {tgt : Nat} (ha : a < 2 ^ 31) (hb2 : b < 2 ^ 31) (hdg : decode cc pc = .ok (.if_icmp .lt off, 3)) (ht : (pc : Int) + off = (tgt : Int)) (kt : a < b → W p l e R s m args below meth c H locs cells slots Q (F0 m tgt ls rest)) (kf : b ≤ a → W p l e R s m args below meth c H locs cells slots Q (F0 m (pc + 3) ls rest)) : W p l e R s m args below meth c H locs cells slots Q (F0 m pc ls (.int (nI b) :: .int (nI a) :: rest)) := lv_icmp_lt hx hb hdg ht (fun h => kt ((nI_ltI ha hb2).mp h)) (fun h => kf (Nat.not_lt.mp (fun q => h ((nI_ltI ha hb2).mpr q))))
theorem r_cgtN (hx : p.tables.exec = Jvm.exec) (hb : c.code = cc) {a b : Nat} {off : Int} {tgt : Nat} (ha : a < 2 ^ 31) (hb2 : b < 2 ^ 31) (hdg : decode cc pc = .ok (.if_icmp .gt off, 3)) (ht : (pc : Int) + off = (tgt : Int)) (kt : b < a → W p l e R s m args below meth c H locs cells slots Q (F0 m tgt ls rest)) (kf : a ≤ b → W p l e R s m args below meth c H locs cells slots Q (F0 m (pc + 3) ls rest)) : W p l e R s m args below meth c H locs cells slots Q (F0 m pc ls (.int (nI b) :: .int (nI a) :: rest)) := lv_icmp_gt hx hb hdg ht (fun h => kt ((nI_ltI hb2 ha).mp h)) (fun h => kf (Nat.not_lt.mp (fun q => h ((nI_ltI hb2 ha).mpr q))))
theorem r_cleN (hx : p.tables.exec = Jvm.exec) (hb : c.code = cc) {a b : Nat} {off : Int} {tgt : Nat} (ha : a < 2 ^ 31) (hb2 : b < 2 ^ 31) (hdg : decode cc pc = .ok (.if_icmp .le off, 3)) (ht : (pc : Int) + off = (tgt : Int)) (kt : a ≤ b → W p l e R s m args below meth c H locs cells slots Q (F0 m tgt ls rest)) (kf : b < a → W p l e R s m args below meth c H locs cells slots Q (F0 m (pc + 3) ls rest)) : W p l e R s m args below meth c H locs cells slots Q (F0 m pc ls (.int (nI b) :: .int (nI a) :: rest)) := lv_icmp_le hx hb hdg ht (fun h => kt ((nI_leI ha hb2).mp h)) (fun h => kf (Nat.not_le.mp (fun q => h ((nI_leI ha hb2).mpr q))))
theorem r_ceqN (hx : p.tables.exec = Jvm.exec) (hb : c.code = cc) {a b : Nat} {off : Int} {tgt : Nat} (ha : a < 2 ^ 31) (hb2 : b < 2 ^ 31) (hdg : decode cc pc = .ok (.if_icmp .eq off, 3)) (ht : (pc : Int) + off = (tgt : Int)) (kt : a = b → W p l e R s m args below meth c H locs cells slots Q (F0 m tgt ls rest)) (kf : a ≠ b → W p l e R s m args below meth c H locs cells slots Q (F0 m (pc + 3) ls rest)) : W p l e R s m args below meth c H locs cells slots Q (F0 m pc ls (.int (nI b) :: .int (nI a) :: rest)) := lv_icmp_eq hx hb hdg ht (fun h => kt (by first | exact (nI_eq ha hb2).mp h | exact ((nI_eq hb2 ha).mp h).symm)) (fun h => kf (fun q => h (by rw [q])))
theorem r_cneN (hx : p.tables.exec = Jvm.exec) (hb : c.code = cc) {a b : Nat} {off : Int} {tgt : Nat} (ha : a < 2 ^ 31) (hb2 : b < 2 ^ 31) (hdg : decode cc pc = .ok (.if_icmp .ne off, 3)) (ht : (pc : Int) + off = (tgt : Int)) (kt : a ≠ b → W p l e R s m args below meth c H locs cells slots Q (F0 m tgt ls rest)) (kf : a = b → W p l e R s m args below meth c H locs cells slots Q (F0 m (pc + 3) ls rest)) : W p l e R s m args below meth c H locs cells slots Q (F0 m pc ls (.int (nI b) :: .int (nI a) :: rest)) := lv_icmp_ne hx hb hdg ht (fun h => kt (fun q => h (by rw [q]))) (fun h => kf (by first | exact (nI_eq ha hb2).mp h | exact ((nI_eq hb2 ha).mp h).symm))
/-- what a call by a receiver in the world needs -/
theorem k_pre {k ci : Nat} {As : List Value} {fs : List Value} {q : vw_C} (hP : va_P D vwCl (wl ad f N) H) (hK : va_K D vwCl tys s) (hD : wD A ad N) (hT : tF s) (hk : k < N) (ha : f k = .inr (ci, fs)) (hc : vwCl[ci]? = some q) : PreV s H q.1 (ad k) (va_Pc (.ref (ad k) :: As) (pX D tys ad f N)) As :=
  ⟨pX.blind, va_recv hK hP hc ((wl_at hk).trans (by rw [ha])), fun U hU hW => ⟨rfl, pX.of hP hK hD hT U hU hW⟩⟩
theorem k_preS {As : List Value} : PreS s H (va_Pc As (fun _ => True)) As := ⟨tt.blind, fun _ _ _ => ⟨rfl, trivial⟩⟩
/-- behind a call that reads alone and answers an int -/
theorem k_Ri {r : Int32} {av : Array Value} (hr : va_Run p l e R s m args below meth c H locs cells slots 0 0 (F0 m pc ls st0) rest (qR (some (.int r)) av) nF) (kk : W p l e R s m args below meth c H locs cells slots Q (F0 m (pc + 3) ls (.int r :: rest))) : W p l e R s m args below meth c H locs cells slots Q (F0 m pc ls st0) := k_R hr kk
theorem k_Rv {av : Array Value} (hr : va_Run p l e R s m args below meth c H locs cells slots 0 0 (F0 m pc ls st0) rest (qR none av) nF) (kk : W p l e R s m args below meth c H locs cells slots Q (F0 m (pc + 3) ls rest)) : W p l e R s m args below meth c H locs cells slots Q (F0 m pc ls st0) := k_R hr kk
theorem k_Wi {r : Int32} {av : Array Value} (hr : va_Run p l e R s m args below meth c H locs cells slots 0 0 (F0 m pc ls st0) rest (qW D ad f' N (some (.int r)) av) (wA ad N)) (hD : wD A ad N) (hS : sS A H0 H locs)
    (kk : ∀ (H1 : Heap) (locs1 : List Loc), va_P D vwCl (wl ad f' N) H1 → sS A H0 H1 locs1 → W p l e R s m args below meth c H1 locs1 cells slots Q (F0 m (pc + 3) ls (.int r :: rest))) : W p l e R s m args below meth c H locs cells slots Q (F0 m pc ls st0) := k_W hr hD hS kk
theorem k_Wv {av : Array Value} (hr : va_Run p l e R s m args below meth c H locs cells slots 0 0 (F0 m pc ls st0) rest (qW D ad f' N none av) (wA ad N)) (hD : wD A ad N) (hS : sS A H0 H locs)
    (kk : ∀ (H1 : Heap) (locs1 : List Loc), va_P D vwCl (wl ad f' N) H1 → sS A H0 H1 locs1 → W p l e R s m args below meth c H1 locs1 cells slots Q (F0 m (pc + 3) ls rest)) : W p l e R s m args below meth c H locs cells slots Q (F0 m pc ls st0) := k_W hr hD hS kk
end CMB
/-! THE TWO WORLDS -/
/-- x with v at (k, i) -/
def up2 (x : Nat → Nat → Int32) (k i : Nat) (v : Int32) : Nat → Nat → Int32 := fun a b => if a = k ∧ b = i then v else x a b
theorem up2_self {x : Nat → Nat → Int32} {k i : Nat} {v : Int32} : up2 x k i v k i = v := by simp [up2]
theorem up2_k {x : Nat → Nat → Int32} {k i a b : Nat} {v : Int32} (h : a ≠ k) : up2 x k i v a b = x a b := by simp [up2, h]
theorem up2_i {x : Nat → Nat → Int32} {k i a b : Nat} {v : Int32} (h : b ≠ i) : up2 x k i v a b = x a b := by simp [up2, h]
theorem up2_row (x : Nat → Nat → Int32) (k i : Nat) (v : Int32) : upd (x k) i v = up2 x k i v k := by
  funext j
  by_cases h : j = i <;> simp [up2, upd, h]
/-- the class: 0 the object, 1 its cards, 2 its links, 3 its refusals; 4 books, 5 names (rows 13..15), 6 sets (rows 16..21), 7 mineChanges, 8 linked, 9 groups, 10 forGood, 11 changesThen (rows 22..45), 12 pairsOfScore -/
def cF (cI cA : ClassId) (ad : Nat → Nat) (n : Nat) (x : Nat → Nat → Int32) : Nat → va_E := fun k =>
  if k = 0 then .inr (3, [.ref (ad 1), .ref (ad 2), .ref (ad 3), .ref (ad 12)])
  else if k = 1 then .inr (0, [.ref (ad 4), .ref (ad 5), .ref (ad 6), .ref (ad 7), .int (nI n)])
  else if k = 2 then .inr (1, [.ref (ad 8), .ref (ad 9)])
  else if k = 3 then .inr (2, [.ref (ad 10), .ref (ad 11)])
  else if k = 5 then .inl (cA, 3, .inr (.inr (.inr (.inr (fun j => some (ad (j + 13)))))))
  else if k = 6 then .inl (cA, 6, .inr (.inr (.inr (.inr (fun j => some (ad (j + 16)))))))
  else if k = 11 then .inl (cA, 24, .inr (.inr (.inr (.inr (fun j => some (ad (j + 22)))))))
  else .inl (cI, if k = 12 then 153 else 24, .inl (x k))
section CF
variable {cI cA : ClassId} {ad : Nat → Nat} {n : Nat} {x : Nat → Nat → Int32}
theorem cF_0 : cF cI cA ad n x 0 = .inr (3, [.ref (ad 1), .ref (ad 2), .ref (ad 3), .ref (ad 12)]) := rfl
theorem cF_1 : cF cI cA ad n x 1 = .inr (0, [.ref (ad 4), .ref (ad 5), .ref (ad 6), .ref (ad 7), .int (nI n)]) := rfl
theorem cF_2 : cF cI cA ad n x 2 = .inr (1, [.ref (ad 8), .ref (ad 9)]) := rfl
theorem cF_3 : cF cI cA ad n x 3 = .inr (2, [.ref (ad 10), .ref (ad 11)]) := rfl
theorem cF_5 : cF cI cA ad n x 5 = .inl (cA, 3, .inr (.inr (.inr (.inr (fun j => some (ad ((fun j => j + 13) j))))))) := rfl
theorem cF_6 : cF cI cA ad n x 6 = .inl (cA, 6, .inr (.inr (.inr (.inr (fun j => some (ad ((fun j => j + 16) j))))))) := rfl
theorem cF_11 : cF cI cA ad n x 11 = .inl (cA, 24, .inr (.inr (.inr (.inr (fun j => some (ad ((fun j => j + 22) j))))))) := rfl
theorem cF_12 : cF cI cA ad n x 12 = .inl (cI, 153, .inl (x 12)) := rfl
theorem cF_a {k : Nat} (h : k = 4 ∨ (7 ≤ k ∧ k ≤ 10) ∨ 13 ≤ k) : cF cI cA ad n x k = .inl (cI, 24, .inl (x k)) := by
  unfold cF
  rw [if_neg (by omega), if_neg (by omega), if_neg (by omega), if_neg (by omega), if_neg (by omega), if_neg (by omega), if_neg (by omega), if_neg (by omega)]
theorem cF_congr {y : Nat → Nat → Int32} {j : Nat} (h : x j = y j) : cF cI cA ad n x j = cF cI cA ad n y j := by
  unfold cF
  rw [h]
theorem cF_up {k i : Nat} {v : Int32} (h : k = 4 ∨ (7 ≤ k ∧ k ≤ 10) ∨ 13 ≤ k) : va_up (cF cI cA ad n x) k (.inl (cI, 24, .inl (upd (x k) i v))) = cF cI cA ad n (up2 x k i v) := by
  funext j
  by_cases hj : j = k
  · subst hj
    rw [va_up_self, cF_a h, up2_row]
  · rw [va_up_ne _ _ hj]
    exact cF_congr (by funext b; rw [up2_k hj])
theorem cF_up12 {i : Nat} {v : Int32} : va_up (cF cI cA ad n x) 12 (.inl (cI, 153, .inl (upd (x 12) i v))) = cF cI cA ad n (up2 x 12 i v) := by
  funext j
  by_cases hj : j = 12
  · subst hj
    rw [va_up_self, cF_12, up2_row]
  · rw [va_up_ne _ _ hj]
    exact cF_congr (by funext b; rw [up2_k hj])
theorem cF_cnt {n' : Nat} : va_up (cF cI cA ad n x) 1 (.inr (0, [.ref (ad 4), .ref (ad 5), .ref (ad 6), .ref (ad 7), .int (nI n')])) = cF cI cA ad n' x := by
  funext j
  by_cases hj : j = 1
  · subst hj
    rw [va_up_self, cF_1]
  · rw [va_up_ne _ _ hj]
    unfold cF
    simp only [if_neg hj]
end CF
/-- the reference: 0 the object; 1 book (24), 2 name (72), 3 set (144), 4 links, 5 good, 6 forNow (24), 7 scores (576) -/
def mF (cI : ClassId) (ad : Nat → Nat) (th : Int32) (n : Nat) (y : Nat → Nat → Int32) : Nat → va_E := fun k =>
  if k = 0 then .inr (4, [.int th, .ref (ad 1), .ref (ad 2), .ref (ad 3), .ref (ad 4), .ref (ad 5), .ref (ad 6), .int (nI n), .ref (ad 7)])
  else .inl (cI, if k = 2 then 72 else if k = 3 then 144 else if k = 7 then 576 else 24, .inl (y k))
section MF
variable {cI : ClassId} {ad : Nat → Nat} {th : Int32} {n : Nat} {y : Nat → Nat → Int32}
theorem mF_0 : mF cI ad th n y 0 = .inr (4, [.int th, .ref (ad 1), .ref (ad 2), .ref (ad 3), .ref (ad 4), .ref (ad 5), .ref (ad 6), .int (nI n), .ref (ad 7)]) := rfl
theorem mF_a (k : Nat) (h : k = 1 ∨ (4 ≤ k ∧ k ≤ 6)) : mF cI ad th n y k = .inl (cI, 24, .inl (y k)) := by
  unfold mF
  rw [if_neg (by omega), if_neg (by omega), if_neg (by omega), if_neg (by omega)]
theorem mF_2 : mF cI ad th n y 2 = .inl (cI, 72, .inl (y 2)) := rfl
theorem mF_3 : mF cI ad th n y 3 = .inl (cI, 144, .inl (y 3)) := rfl
theorem mF_7 : mF cI ad th n y 7 = .inl (cI, 576, .inl (y 7)) := rfl
theorem mF_up {k i L : Nat} {v : Int32} (h : mF cI ad th n y k = .inl (cI, L, .inl (y k))) (hk : k ≠ 0) : va_up (mF cI ad th n y) k (.inl (cI, L, .inl (upd (y k) i v))) = mF cI ad th n (up2 y k i v) := by
  funext j
  by_cases hj : j = k
  · subst hj
    rw [va_up_self]
    unfold mF at h ⊢
    rw [if_neg hk] at h ⊢
    have h1 := Prod.mk.inj (Sum.inl.inj h)
    have h2 := (Prod.mk.inj h1.2).1
    rw [h2, up2_row]
  · rw [va_up_ne _ _ hj]
    unfold mF
    rw [show up2 y k i v j = y j from by funext b; rw [up2_k hj]]
theorem mF_th {th' : Int32} : va_up (mF cI ad th n y) 0 (.inr (4, [.int th', .ref (ad 1), .ref (ad 2), .ref (ad 3), .ref (ad 4), .ref (ad 5), .ref (ad 6), .int (nI n), .ref (ad 7)])) = mF cI ad th' n y := by
  funext j
  by_cases hj : j = 0
  · subst hj
    rw [va_up_self, mF_0]
  · rw [va_up_ne _ _ hj]
    unfold mF
    rw [if_neg hj, if_neg hj]
theorem mF_n {n' : Nat} : va_up (mF cI ad th n y) 0 (.inr (4, [.int th, .ref (ad 1), .ref (ad 2), .ref (ad 3), .ref (ad 4), .ref (ad 5), .ref (ad 6), .int (nI n'), .ref (ad 7)])) = mF cI ad th n' y := by
  funext j
  by_cases hj : j = 0
  · subst hj
    rw [va_up_self, mF_0]
  · rw [va_up_ne _ _ hj]
    unfold mF
    rw [if_neg hj, if_neg hj]
end MF
abbrev cX (D : va_G) (cI cA : ClassId) (ad : Nat → Nat) (n : Nat) (x : Nat → Nat → Int32) : State → Prop := pX D [(cI, .int), (cA, .array .int)] ad (cF cI cA ad n x) 46
abbrev mX (D : va_G) (cI cA : ClassId) (ad : Nat → Nat) (th : Int32) (n : Nat) (y : Nat → Nat → Int32) : State → Prop := pX D [(cI, .int), (cA, .array .int)] ad (mF cI ad th n y) 8
/-! PURE WORDS -/
def bit (c : Nat) : Int32 := nI 1 <<< (nI c &&& 31)
def hasB (s : Int32) (c : Nat) : Bool := decide (s &&& bit c ≠ 0)
def ush (x y : Int32) : Int32 := (x.toUInt32 >>> (y.toUInt32 &&& Int32.toUInt32 31)).toInt32
section CMQ
variable {p : Program} {l : Launch} {e : Env} {R : Room} {s : State} {m : MethodId} {args : Array Value} {below : List Frame} {meth : Method} {c : Code} {H : Heap} {locs : List Loc} {cells slots : Nat} {Q : State → Prop}
variable {cc : ByteArray} {pc : Nat} {ls : Array Slot} {rest st0 : List Value} {D : va_G} {A : Nat → Prop} {tys : List (ClassId × FieldType)} {H0 : Heap} {ad : Nat → Nat} {f f' : Nat → va_E} {N : Nat} {cI cA : ClassId} {n : Nat} {x : Nat → Nat → Int32}
theorem r_bit (hx : p.tables.exec = Jvm.exec) (hb : c.code = cc) {a : Nat} (hdg : decode cc pc = .ok (.ishl, 1)) (kk : W p l e R s m args below meth c H locs cells slots Q (F0 m (pc + 1) ls (.int (bit a) :: rest))) : W p l e R s m args below meth c H locs cells slots Q (F0 m pc ls (.int (nI a) :: .int (nI 1) :: rest)) := lv_ishl hx hb hdg kk
theorem r_cnt (hx : p.tables.exec = Jvm.exec) (hb : c.code = cc) {Ts : List Cond} (hts : ∀ w ∈ Ts, w.before args s = true) (hin : ∀ w ∈ wsX00, w ∈ Ts) (hown : s.vm.findClass RX3 = some m.cls) (hK : va_K D vwCl tys s) (hP : va_P D vwCl (wl ad (cF cI cA ad n x) 46) H) (hT : va_Nw (.fieldLinkNest RX3 46 RX0 "count" "I" RX3) s) (hdg : decode cc pc = .ok (.getfield 46, 3))
    (kk : W p l e R s m args below meth c H locs cells slots Q (F0 m (pc + 3) ls (.int (nI n) :: rest))) : W p l e R s m args below meth c H locs cells slots Q (F0 m pc ls (.ref (ad 1) :: rest)) :=
  va_getN (own := RX3) (ref := RX0) (C := RX0) (host := RX3) (ci := 0) (T := TX0) (N := 5) hx hb hts hin hown hK hP 1 ((wl_at (by decide)).trans (by rw [cF_1])) rfl 4 (by decide) (va_Nw.use rfl hT) (fun _ h => h) rfl hdg kk
end CMQ
end
section
/-! WHAT THROWS: the facts that it needs, its contract, its leaf and the way on -/
def IOOB : String := "java/lang/IndexOutOfBoundsException"
def IAE : String := "java/lang/IllegalArgumentException"
def ISE : String := "java/lang/IllegalStateException"
def xS (k : Nat) (tx : String) (U : State) : Prop := ∃ sa : Nat, vk_R RX3 k tx sa U
/-- the words of a throw that are no good words, by the thrown class -/
def xB (E : String) : List Cond := [.castable E E, .declares (Bundle.initS "java/lang/RuntimeException"), .declares (Bundle.initS "java/lang/Exception"), .declares (Bundle.initS Bundle.tN)]
def xN (U : State) : Prop := ∀ E, E = IOOB ∨ E = IAE ∨ E = ISE → ∀ w ∈ xB E, va_Nw w U
theorem xN.warm {s U : State} (hW : s.WarmedH U.vm) (h : xN s) : xN U := by
  intro E hE w hw
  have h0 := h E hE w hw
  simp only [xB, List.mem_cons, List.not_mem_nil, or_false] at hw
  rcases hw with rfl | rfl | rfl | rfl
  · exact va_Nw.warmC hW h0
  · exact va_Nw.warmD hW h0
  · exact va_Nw.warmD hW h0
  · exact va_Nw.warmD hW h0
def xT (U : State) : Prop := xS 183 "no such book" U ∧ xS 185 "no such card" U ∧ xS 189 "an argument is out of its range" U ∧ xS 52 "there are 24 cards" U ∧ xS 120 "these two are linked" U ∧ xS 134 "these two are not linked" U ∧ xS 163 "no such place" U ∧ xS 172 "they are no suggested pair" U
theorem xS.warm {k : Nat} {tx : String} {s U : State} (hW : s.WarmedH U.vm) (h : xS k tx s) : xS k tx U := h.elim fun a ha => ⟨a, vk_R.warm hW ha⟩
theorem xT.warm {s U : State} (hW : s.WarmedH U.vm) (h : xT s) : xT U := ⟨h.1.warm hW, h.2.1.warm hW, h.2.2.1.warm hW, h.2.2.2.1.warm hW, h.2.2.2.2.1.warm hW, h.2.2.2.2.2.1.warm hW, h.2.2.2.2.2.2.1.warm hW, h.2.2.2.2.2.2.2.warm hW⟩
def xZ (A : Nat → Prop) (U : State) (H : Heap) : Prop := vx_Zq Bundle.tN "UNASSIGNED_STACK" Bundle.steD A U H ∧ vx_Zq Bundle.tN "SUPPRESSED_SENTINEL" Bundle.listD A U H
def xF (A : Nat → Prop) (U : State) : Prop := xZ A U U.heap ∧ xT U ∧ xN U
theorem xF.of {A B : Nat → Prop} {s U : State} {H : Heap} (hU : U.heap = H) (hW : s.WarmedH U.vm) (hk : ∀ a : Nat, a < s.heap.size → ¬ A a → H[a]? = s.heap[a]?) (hAB : ∀ q, B q → A q) (h : xF A s) : xF B U := by
  obtain ⟨⟨h1, h2⟩, h3, h4⟩ := h
  subst hU
  exact ⟨⟨(vx_Zq.moved hW.alike (h1.kept hk)).narrow hAB, (vx_Zq.moved hW.alike (h2.kept hk)).narrow hAB⟩, h3.warm hW, h4.warm hW⟩
theorem xF.blind {A : Nat → Prop} {a : Array Value} {U : State} {g : JFrame} {mk : MethodId} (h : xF A U) : xF A (U.calling g mk a) := by
  refine xF.of (A := A) (s := U) (H := U.heap) rfl ?_ (fun _ _ _ => rfl) (fun _ h => h) h
  show U.WarmedH U.vm
  exact State.WarmedH.refl U
/-- it throws E, and no old cell is another -/
def xE (E : String) : String → State → State → Prop := fun E' st t => E' = E ∧ st.heap.size ≤ t.heap.size ∧ ∀ q : Nat, q < st.heap.size → t.heap[q]? = st.heap[q]?
def nQ : Array Value → State → Outcome → State → Prop := fun _ _ _ _ => False
/-- a throwing method's start -/
def pT (D : va_G) (tys : List (ClassId × FieldType)) (ad : Nat → Nat) (f : Nat → va_E) (n : Nat) (U : State) : Prop := pX D tys ad f n U ∧ xF (wA ad n) U
theorem pT.blind {D : va_G} {tys : List (ClassId × FieldType)} {ad : Nat → Nat} {f : Nat → va_E} {n : Nat} {As : List Value} : FrameBlind (va_Pc As (pT D tys ad f n)) := by
  intro a U g mk ⟨h1, h2, h3⟩
  exact ⟨h1, (pX.blind (As := a.toList) a U g mk ⟨by simp, h2⟩).2, h3.blind⟩
theorem xq.blind {A : Nat → Prop} {As : List Value} : FrameBlind (va_Pc As (xF A)) := by
  intro a U g mk ⟨h1, h2⟩
  exact ⟨h1, h2.blind⟩
abbrev cT (D : va_G) (cI cA : ClassId) (ad : Nat → Nat) (n : Nat) (x : Nat → Nat → Int32) : State → Prop := pT D [(cI, .int), (cA, .array .int)] ad (cF cI cA ad n x) 46
section CMT
variable {p : Program} {l : Launch} {e : Env} {R : Room} {s : State} {m : MethodId} {args : Array Value} {below : List Frame} {meth : Method} {c : Code} {H : Heap} {locs : List Loc} {cells slots : Nat} {Q : State → Prop}
variable {cc : ByteArray} {pc : Nat} {ls : Array Slot} {rest st0 : List Value} {D : va_G} {A B : Nat → Prop} {tys : List (ClassId × FieldType)} {H0 : Heap} {ad : Nat → Nat} {f f' : Nat → va_E} {N : Nat}
/-- 'throw new E("text")' -/
theorem r_throw (hx : p.tables.exec = Jvm.exec) (hb : c.code = cc) (hlt : l.stackTraces = false) {cls text : String} {ik is ic : Nat} {Ts : List Cond} (hts : ∀ w ∈ Ts, w.before args s = true) (hown : s.vm.findClass RX3 = some m.cls) (hE : cls = IOOB ∨ cls = IAE ∨ cls = ISE) (hfit : Bundle.fit cls = true)
    (hk : Cond.classLink RX3 ik cls ∈ Ts) (hini : Cond.initialized cls ∈ Ts) (hwd : ∀ w ∈ (vx_atS RX3 ic cls ["java/lang/RuntimeException", "java/lang/Exception"]).filter goodWord, w ∈ Ts)
    (hbd : ∀ w ∈ (vx_atS RX3 ic cls ["java/lang/RuntimeException", "java/lang/Exception"]).filter (fun w => !goodWord w), w ∈ xB cls)
    (hgood : ∀ w ∈ Cond.classLink RX3 ik cls :: Cond.initialized cls :: vx_atS RX3 ic cls ["java/lang/RuntimeException", "java/lang/Exception"], vx_ot w = true)
    (hstr : xS is text s) (hN : xN s) (hZ : xZ A s s.heap) (hS : va_S A s.heap H locs) (hsize : ls.size = c.maxLocals)
    (d0 : decode cc pc = .ok (.new ik, 3)) (d3 : decode cc (pc + 3) = .ok (.dup, 1)) (d4 : decode cc (pc + 4) = .ok (.ldc is, 2)) (d6 : decode cc (pc + 6) = .ok (.invokespecial ic, 3)) (d9 : decode cc (pc + 9) = .ok (.athrow, 1))
    (htab : ∀ x ∈ c.exceptionTable.toList, False) (hRf : 5 < R.frames) (hRl : 82 ≤ R.locals) (hRc : cells + 1 ≤ R.cells) (hRs : slots + 6 ≤ R.slots) (hlocks : meth.locks = false) {XC : String → State → State → Prop} {mc ms : Nat} {free : Addr → Prop}
    (hXC : ∀ t : State, H.size ≤ t.heap.size → (∀ q : Nat, q < H.size → t.heap[q]? = H[q]?) → XC cls s t) (hf : ∀ z ∈ locs, free z.base) (hmc : cells + 1 ≤ mc) (hms : slots + 6 ≤ ms) :
    W p l e R s m args below meth c H locs cells slots (vx_MQ below nQ XC args s mc ms free) (F0 m pc ls []) := by
  obtain ⟨sa, hsa⟩ := hstr
  refine vx_throwS (names := ["java/lang/RuntimeException", "java/lang/Exception"]) (A := A) hx hb hlt hown hfit (by decide +kernel) (hts _ hk) (hts _ hini) hsa ?_ hgood hZ.1 hZ.2 hS hsize d0 d3 d4 d6 d9 (fun x hx => (htab x hx).elim) hRf hRl hRc hRs hlocks (fun t _ h1 h2 => hXC t h1 h2) hf hmc hms
  exact vx_hat (fun w hw => hts w (hwd w hw)) hbd (fun w hw => va_any (by revert hw; simp only [xB, List.mem_cons, List.not_mem_nil, or_false]; rintro (rfl | rfl | rfl | rfl) <;> rfl) (hN cls hE w hw))
/-- a call that throws E goes on to the caller -/
theorem k_T {Qa : State → Outcome → State → Prop} {E : String} (hr : vx_Run p l e R s m args below meth c H locs cells slots 1 6 (F0 m pc ls st0) rest Qa (xE E) nF) (hQ : ∀ st v t, ¬ Qa st (.returned v) t)
    (kk : ∀ (H1 : Heap) (q : Addr) (ce : Cell), H.size ≤ H1.size → (∀ a : Nat, a < H.size → H1[a]? = H[a]?) → H1[q]? = some ce → ce.vm = .none → s.vm.findClass E = some ce.cls → vx_W p l e R s m args below meth c H1 locs (cells + 1) (slots + 6) Q (F0 m pc ls rest) q) : W p l e R s m args below meth c H locs cells slots Q (F0 m pc ls st0) := by
  intro T hT X
  rcases hr T hT X with ⟨v, st₀, t, T', L, h0, X', hL, e1, e2, hq, st⟩ | ⟨q, st₀, t, T', L, E', ce, h0, X', hL, e1, e2, ⟨rfl, hz, hk⟩, hce, hcv, hcl, st⟩
  · exact absurd hq (hQ _ _ _)
  · have hL0 : L = [] := List.eq_nil_iff_forall_not_mem.mpr fun q hq => hL q hq
    subst hL0
    rw [List.append_nil] at X'
    rw [h0] at hz hk
    obtain ⟨t2, a1, b1⟩ := kk T'.heap q ce (by rw [e1]; exact hz) (fun a ha => by rw [e1]; exact hk a ha) (by rw [e1]; exact hce) hcv hcl T' rfl X'
    exact ⟨t2, st.trans a1, b1⟩
/-- .. out of a method without a table that has written nothing -/
theorem k_To {Qa : State → Outcome → State → Prop} {E : String} (hr : vx_Run p l e R s m args below meth c s.heap [] 0 0 1 6 (F0 m pc ls st0) rest Qa (xE E) nF) (hQ : ∀ st v t, ¬ Qa st (.returned v) t) (htab : ∀ x ∈ c.exceptionTable.toList, False) (hlocks : meth.locks = false) :
    W p l e R s m args below meth c s.heap [] 0 0 (vx_MQ below nQ (xE E) args s 1 6 nF) (F0 m pc ls st0) :=
  k_T hr hQ fun H1 q ce h1 h2 h3 h4 h5 => vx_out (fun x hx => (htab x hx).elim) hlocks h3 h4 h5 (fun t ht _ => ⟨rfl, by rw [ht]; exact h1, fun a ha => by rw [ht]; exact h2 a ha⟩) (fun _ h => by cases h) (Nat.le_refl _) (Nat.le_refl _)
theorem k_preT {k ci : Nat} {As : List Value} {fs : List Value} {q : vw_C} (hP : va_P D vwCl (wl ad f N) s.heap) (hK : va_K D vwCl tys s) (hD : wD A ad N) (hT : tF s) (hX : xF (wA ad N) s) (hk : k < N) (ha : f k = .inr (ci, fs)) (hc : vwCl[ci]? = some q) : PreV s s.heap q.1 (ad k) (va_Pc (.ref (ad k) :: As) (pT D tys ad f N)) As :=
  ⟨pT.blind, va_recv hK hP hc ((wl_at hk).trans (by rw [ha])), fun U hU hW => ⟨rfl, pX.of hP hK hD hT U hU hW, hX.of hU hW (fun _ _ _ => rfl) (fun _ h => h)⟩⟩
theorem k_preX {As : List Value} (hX : xF A s) : PreS s s.heap (va_Pc As (xF A)) As := ⟨xq.blind, fun U hU hW => ⟨rfl, hX.of hU hW (fun _ _ _ => rfl) (fun _ h => h)⟩⟩
end CMT
/-- a method that throws E, having written nothing -/
theorem c_ofT {l : Launch} {y : MethodName} {ws ws' : List Cond} {rm : Room} {cc : ByteArray} {maxL : Nat} {ret : Option FieldType} {As : List Value} {B0 : State → Prop} {E : String} (hy : plainName y.cls = true) (hw : ws = Cond.code y cc maxL ret :: ws') (hla : (lg_sl As).length ≤ maxL)
    (body : ∀ (p : Program) (e : Env) (s : State) (m : MethodId) (av : Array Value) (below : List Frame) (meth : Method) (cd : Code) (Q : State → Prop), Q = vx_MQ below nQ (xE E) av s 1 6 nF → 
      p.tables.exec = Jvm.exec → cd.code = cc → CallFix p m cd cc maxL s av ws y.cls → (∀ x ∈ cd.exceptionTable.toList, False) → meth.locks = false → B0 s →
      ∀ ls : Array Slot, lv_has ls maxL (lv_args 0 As) → W p l e rm s m av below meth cd s.heap [] 0 0 Q (F0 m 0 ls [])) :
    vx_Met l y ws rm (va_Pc As B0) nQ (xE E) 1 6 nF := by
  refine vx_ofW (cc := cc) (maxL := maxL) (ret := ret) hy hw ?_
  intro p e s m args below meth c s₁ B hml htab hv
  obtain ⟨rfl, hB⟩ := hv
  have hl := lv_entry As (n := maxL) hla
  rw [lg_entry_eq]
  exact body p e s m _ below meth c _ rfl B.exec B.bytes ⟨B.exec, B.bytes, hml, findClass_of_methodNamed B.named, atoms_spec (ws := ws) B.pre⟩ htab B.notSynchronized hB _ hl
/-- it throws E, and the world is f -/
def xEW (D : va_G) (ad : Nat → Nat) (f : Nat → va_E) (n : Nat) (E : String) : String → State → State → Prop := fun E' st t => E' = E ∧ va_P D vwCl (wl ad f n) t.heap ∧ st.heap.size ≤ t.heap.size ∧ ∀ q : Nat, q < st.heap.size → ¬ wA ad n q → t.heap[q]? = st.heap[q]?
theorem c_ofX {l : Launch} {y : MethodName} {ws ws' : List Cond} {rm : Room} {cc : ByteArray} {maxL : Nat} {ret : Option FieldType} {As : List Value} {B0 : State → Prop} {E : String} {D : va_G} {ad : Nat → Nat} {f' : Nat → va_E} {N : Nat} (hy : plainName y.cls = true) (hw : ws = Cond.code y cc maxL ret :: ws') (hla : (lg_sl As).length ≤ maxL)
    (body : ∀ (p : Program) (e : Env) (s : State) (m : MethodId) (av : Array Value) (below : List Frame) (meth : Method) (cd : Code) (Q : State → Prop), Q = vx_MQ below nQ (xEW D ad f' N E) av s 1 6 (wA ad N) → 
      p.tables.exec = Jvm.exec → cd.code = cc → CallFix p m cd cc maxL s av ws y.cls → (∀ x ∈ cd.exceptionTable.toList, False) → meth.locks = false → B0 s →
      ∀ ls : Array Slot, lv_has ls maxL (lv_args 0 As) → W p l e rm s m av below meth cd s.heap [] 0 0 Q (F0 m 0 ls [])) :
    vx_Met l y ws rm (va_Pc As B0) nQ (xEW D ad f' N E) 1 6 (wA ad N) := by
  refine vx_ofW (cc := cc) (maxL := maxL) (ret := ret) hy hw ?_
  intro p e s m args below meth c s₁ B hml htab hv
  obtain ⟨rfl, hB⟩ := hv
  have hl := lv_entry As (n := maxL) hla
  rw [lg_entry_eq]
  exact body p e s m _ below meth c _ rfl B.exec B.bytes ⟨B.exec, B.bytes, hml, findClass_of_methodNamed B.named, atoms_spec (ws := ws) B.pre⟩ htab B.notSynchronized hB _ hl
end
section
/-! THE SYSTEM'S WORDS, as functions -/
/-- Integer.bitCount, as it is written -/
def bcA (a : Int32) : Int32 := a - (ush a (nI 1) &&& (1431655765 : Int32))
def bcB (a : Int32) : Int32 := (a &&& (858993459 : Int32)) + (ush a (nI 2) &&& (858993459 : Int32))
def bcC (a : Int32) : Int32 := (a + ush a (nI 4)) &&& (252645135 : Int32)
def bc (a : Int32) : Int32 := (((bcC (bcB (bcA a))) + ush (bcC (bcB (bcA a))) (nI 8)) + ush ((bcC (bcB (bcA a))) + ush (bcC (bcB (bcA a))) (nI 8)) (nI 16)) &&& nI 63
def nameB (a : Int32) : Bool := decide (¬ a < 0) && decide (¬ nI 32 ≤ a)
def valueB (a : Int32) : Bool := decide (¬ a < 0) && decide (¬ nI 30 ≤ a)
def bookB (a : Int32) : Bool := decide (¬ a < 0) && decide (a < nI 3)
def kindB (a : Int32) : Bool := decide (a = 0) || decide (a = nI 1)
def chgB (a : Int32) : Bool := decide (a = 0) || decide (a = nI 1)
def verB (a : Int32) : Bool := chgB a || decide (a = nI 2)
/-- the merge of sets and of names -/
def mrg (m t b : Int32) : Int32 := (m &&& t) ||| ((m ^^^ t) &&& (b ^^^ (-1)))
def mrgN (m t b : Int32) : Int32 := if m = b then t else m
def clB (m t b : Int32) : Bool := decide (m ≠ t) && decide (m ≠ b) && decide (t ≠ b)
def byB (m t b : Bool) : Bool := (!b && (m || t)) || (b && (m && t))
def byV (m t b : Int32) : Nat → Int32
  | 0 => nI 0
  | i + 1 => if byB (hasB m i) (hasB t i) (hasB b i) = true then byV m t b i ||| bit i else byV m t b i
/-- a card of the group g is ahead of another, by the books b -/
def isAh (b : Nat → Int32) (c d : Nat) : Bool := decide (b c < b d ∨ (b c = b d ∧ c < d))
def prefF (b : Nat → Int32) (g : Int32) (c : Nat) : Nat → Nat
  | 0 => c
  | i + 1 => if (hasB g i && isAh b i (prefF b g c i)) = true then i else prefF b g c i
theorem prefF_lt {b : Nat → Int32} {g : Int32} {c N : Nat} (hc : c < N) : ∀ i, i ≤ N → prefF b g c i < N
  | 0, _ => hc
  | i + 1, h => by
    unfold prefF
    split
    · omega
    · exact prefF_lt hc i (by omega)
/-- what is in s of one of the group g -/
def orF (g : Int32) (s : Nat → Int32) : Nat → Int32
  | 0 => nI 0
  | i + 1 => if hasB g i = true then orF g s i ||| s i else orF g s i
/-- how many of the first ones have it -/
def cntF (q : Nat → Bool) : Nat → Int32
  | 0 => nI 0
  | i + 1 => if q i = true then cntF q i + nI 1 else cntF q i
/-! the class's words, on its numbers x -/
def cNm (x : Nat → Nat → Int32) (c : Nat) : Int32 := mrgN (x 13 c) (x 14 c) (x 15 c)
def cSt (x : Nat → Nat → Int32) (c k : Nat) : Int32 := mrg (x (k + 16) c) (x (k + 18) c) (x (k + 20) c)
def putN (x : Nat → Nat → Int32) (c v : Nat) (w : Int32) : Nat → Nat → Int32 := up2 (if v = 0 ∧ x (v + 13) c ≠ w then up2 x 7 c (x 7 c + nI 1) else x) (v + 13) c w
def putS (x : Nat → Nat → Int32) (c v k : Nat) (w : Int32) : Nat → Nat → Int32 := up2 (if v = 0 ∧ x (2 * v + k + 16) c ≠ w then up2 x 7 c (x 7 c + nI 1) else x) (2 * v + k + 16) c w
theorem putN_a {x : Nat → Nat → Int32} {c v : Nat} {w : Int32} (h : v = 0) (h2 : ¬ x (v + 13) c = w) : putN x c v w = up2 (up2 x 7 c (x 7 c + nI 1)) (v + 13) c w := by rw [putN, if_pos ⟨h, h2⟩]
theorem putN_b {x : Nat → Nat → Int32} {c v : Nat} {w : Int32} (h : v ≠ 0) : putN x c v w = up2 x (v + 13) c w := by rw [putN, if_neg (fun q => h q.1)]
theorem putN_c {x : Nat → Nat → Int32} {c v : Nat} {w : Int32} (h2 : x (v + 13) c = w) : putN x c v w = up2 x (v + 13) c w := by rw [putN, if_neg (fun q => q.2 h2)]
theorem putS_a {x : Nat → Nat → Int32} {c v k : Nat} {w : Int32} (h : v = 0) (h2 : ¬ x (2 * v + k + 16) c = w) : putS x c v k w = up2 (up2 x 7 c (x 7 c + nI 1)) (2 * v + k + 16) c w := by rw [putS, if_pos ⟨h, h2⟩]
theorem putS_b {x : Nat → Nat → Int32} {c v k : Nat} {w : Int32} (h : v ≠ 0) : putS x c v k w = up2 x (2 * v + k + 16) c w := by rw [putS, if_neg (fun q => h q.1)]
theorem putS_c {x : Nat → Nat → Int32} {c v k : Nat} {w : Int32} (h2 : x (2 * v + k + 16) c = w) : putS x c v k w = up2 x (2 * v + k + 16) c w := by rw [putS, if_neg (fun q => q.2 h2)]
def putV (x : Nat → Nat → Int32) (c v : Nat) (w a b : Int32) : Nat → Nat → Int32 := putS (putS (putN x c v w) c v 0 a) c v 1 b
def mergeV (x : Nat → Nat → Int32) (c : Nat) : Nat → Nat → Int32 := putV (putV (putV x c 0 (cNm x c) (cSt x c 0) (cSt x c 1)) c 1 (cNm x c) (cSt x c 0) (cSt x c 1)) c 2 (cNm x c) (cSt x c 0) (cSt x c 1)
def appE (x : Nat → Nat → Int32) (n : Nat) (b w : Int32) : Nat → Nat → Int32 := up2 (up2 (up2 (up2 x 4 n b) 13 n w) 14 n w) 15 n w
def synV (x : Nat → Nat → Int32) (c v : Nat) : Bool := decide (x (v + 13) c = cNm x c) && decide (x (2 * v + 16) c = cSt x c 0) && decide (x (2 * v + 17) c = cSt x c 1)
def synB (x : Nat → Nat → Int32) (c : Nat) : Bool := synV x c 0 && synV x c 1 && synV x c 2
def mcOf (x : Nat → Nat → Int32) (c d : Nat) : Int32 := x 7 c + x 7 d
def shr (x : Nat → Nat → Int32) (c d k : Nat) : Int32 := bc (x (k + 16) c &&& x (k + 16) d)
def lowB (g : Int32) (c : Nat) : Bool := decide (g &&& (bit c - nI 1) = 0)
def reaF (L : Nat → Int32) (c : Nat) : Nat → Int32
  | 0 => bit c
  | i + 1 => reaF L c i ||| orF (reaF L c i) L 24
def pgF (x : Nat → Nat → Int32) (g : Int32) : Nat → Nat → Nat → Int32
  | 0 => x
  | i + 1 => if hasB g i = true then up2 (pgF x g i) 9 i g else pgF x g i
def lnkX (x : Nat → Nat → Int32) (c d : Nat) : Nat → Nat → Int32 := up2 (up2 x 8 c (x 8 c ||| bit d)) 8 d ((up2 x 8 c (x 8 c ||| bit d)) 8 d ||| bit c)
def conX (x : Nat → Nat → Int32) (c d : Nat) : Nat → Nat → Int32 := pgF (lnkX x c d) (lnkX x c d 9 c ||| lnkX x c d 9 d) 24
def cutX (x : Nat → Nat → Int32) (c d : Nat) : Nat → Nat → Int32 := up2 (up2 x 8 c (x 8 c &&& (bit d ^^^ (-1)))) 8 d ((up2 x 8 c (x 8 c &&& (bit d ^^^ (-1)))) 8 d &&& (bit c ^^^ (-1)))
def disA (x : Nat → Nat → Int32) (c : Nat) : Nat → Nat → Int32 := pgF x (reaF (x 8) c 24) 24
def disX (x : Nat → Nat → Int32) (c d : Nat) : Nat → Nat → Int32 := disA (disA (cutX x c d) c) d
def rfgX (x : Nat → Nat → Int32) (c d : Nat) : Nat → Nat → Int32 := up2 (up2 x 10 c (x 10 c ||| bit d)) 10 d ((up2 x 10 c (x 10 c ||| bit d)) 10 d ||| bit c)
def rfnX (x : Nat → Nat → Int32) (c d : Nat) (w : Int32) : Nat → Nat → Int32 := up2 (up2 x (c + 22) d w) (d + 22) c w
def staB (x : Nat → Nat → Int32) (c d : Nat) (w : Int32) : Bool := hasB (x 10 c) d || decide (x (c + 22) d = w)
/-- takeOutOfMine: the state and the set of the changed -/
def tkS (x : Nat → Nat → Int32) (g : Int32) (k v : Nat) : Nat → Nat → Nat → Int32
  | 0 => x
  | i + 1 => if (hasB g i && hasB (tkS x g k v i (k + 16) i) v) = true then putS (tkS x g k v i) i 0 k (tkS x g k v i (k + 16) i &&& (bit v ^^^ (-1))) else tkS x g k v i
def tkC (x : Nat → Nat → Int32) (g : Int32) (k v : Nat) : Nat → Int32
  | 0 => nI 0
  | i + 1 => if (hasB g i && hasB (tkS x g k v i (k + 16) i) v) = true then tkC x g k v i ||| bit i else tkC x g k v i
def sc (x : Nat → Nat → Int32) (c d : Nat) : Int32 := if hasB (x 9 c) d = true then nI 0 else if x 13 c = x 13 d then (nI 3 * shr x c d 0 + nI 2 * shr x c d 1) + nI 2 else nI 3 * shr x c d 0 + nI 2 * shr x c d 1
def sg (x : Nat → Nat → Int32) (c d : Nat) : Int32 := if staB x c d (mcOf x c d) = true then nI 0 else sc x c d
def sgN (x : Nat → Nat → Int32) (c d : Nat) : Nat := (sg x c d).toNatClampNeg
theorem sgN_eq {x : Nat → Nat → Int32} {c d : Nat} (h : ¬ sg x c d ≤ 0) (h2 : ¬ nI 152 < sg x c d) : sg x c d = nI (sgN x c d) ∧ sgN x c d < 153 := by
  have h0 : ¬ sg x c d < 0 := fun q => h (Int32.le_of_lt q)
  obtain ⟨j, hj, e⟩ := nI_of h0
  have e2 : sgN x c d = j := by unfold sgN; rw [e]; exact nI_clamp hj
  rw [e2, e]
  refine ⟨rfl, ?_⟩
  rw [e] at h2
  have := mt (nI_ltI (by decide) hj).mpr h2
  omega
def stepS (x : Nat → Nat → Int32) (c d : Nat) : Nat → Nat → Int32 := if ¬ sg x c d ≤ 0 ∧ ¬ nI 152 < sg x c d then up2 x 12 (sgN x c d) (x 12 (sgN x c d) + nI 1) else x
def clr (x : Nat → Nat → Int32) : Nat → Nat → Nat → Int32
  | 0 => x
  | i + 1 => up2 (clr x i) 12 i (nI 0)
def inS (x : Nat → Nat → Int32) (c : Nat) : Nat → Nat → Nat → Int32
  | 0 => x
  | k + 1 => stepS (inS x c k) c (k + c + 1)
def inC (x : Nat → Nat → Int32) (c : Nat) (r : Int32) : Nat → Int32
  | 0 => r
  | k + 1 => if ¬ sg (inS x c k) c (k + c + 1) ≤ 0 ∧ ¬ nI 152 < sg (inS x c k) c (k + c + 1) then inC x c r k + nI 1 else inC x c r k
theorem inS_t {x : Nat → Nat → Int32} {c k : Nat} (h : ¬ sg (inS x c k) c (k + c + 1) ≤ 0 ∧ ¬ nI 152 < sg (inS x c k) c (k + c + 1)) : inS x c (k + 1) = up2 (inS x c k) 12 (sgN (inS x c k) c (k + c + 1)) ((inS x c k) 12 (sgN (inS x c k) c (k + c + 1)) + nI 1) := by rw [inS, stepS, if_pos h]
theorem inS_f {x : Nat → Nat → Int32} {c k : Nat} (h : nI 152 < sg (inS x c k) c (k + c + 1)) : inS x c (k + 1) = inS x c k := by rw [inS, stepS, if_neg (fun q => q.2 h)]
theorem inS_n {x : Nat → Nat → Int32} {c k : Nat} (h : sg (inS x c k) c (k + c + 1) ≤ 0) : inS x c (k + 1) = inS x c k := by rw [inS, stepS, if_neg (fun q => q.1 h)]
theorem inC_t {x : Nat → Nat → Int32} {c k : Nat} {r : Int32} (h : ¬ sg (inS x c k) c (k + c + 1) ≤ 0 ∧ ¬ nI 152 < sg (inS x c k) c (k + c + 1)) : inC x c r (k + 1) = inC x c r k + nI 1 := by rw [inC, if_pos h]
theorem inC_f {x : Nat → Nat → Int32} {c k : Nat} {r : Int32} (h : nI 152 < sg (inS x c k) c (k + c + 1)) : inC x c r (k + 1) = inC x c r k := by rw [inC, if_neg (fun q => q.2 h)]
theorem inC_n {x : Nat → Nat → Int32} {c k : Nat} {r : Int32} (h : sg (inS x c k) c (k + c + 1) ≤ 0) : inC x c r (k + 1) = inC x c r k := by rw [inC, if_neg (fun q => q.1 h)]
def outS (x : Nat → Nat → Int32) (n : Nat) : Nat → Nat → Nat → Int32
  | 0 => x
  | i + 1 => inS (outS x n i) i (n - (i + 1))
def outC (x : Nat → Nat → Int32) (n : Nat) : Nat → Int32
  | 0 => nI 0
  | i + 1 => inC (outS x n i) i (outC x n i) (n - (i + 1))
theorem outS_s {x : Nat → Nat → Int32} {n i w : Nat} (h : n = i + 1 + w) : outS x n (i + 1) = inS (outS x n i) i w := by rw [outS, show n - (i + 1) = w by omega]
theorem outC_s {x : Nat → Nat → Int32} {n i w : Nat} (h : n = i + 1 + w) : outC x n (i + 1) = inC (outS x n i) i (outC x n i) w := by rw [outC, show n - (i + 1) = w by omega]
def tlS (x : Nat → Nat → Int32) (n : Nat) : Nat → Nat → Int32 := outS (clr x 153) n n
def tlC (x : Nat → Nat → Int32) (n : Nat) : Int32 := outC (clr x 153) n n
/-- pairOfScore, from the place (i, i + 1 + k) on -/
def pIn (x : Nat → Nat → Int32) (s : Int32) (i : Nat) (K : Int32 → Int32) : Nat → Nat → Int32 → Int32
  | 0, _, r => K r
  | w + 1, k, r => if sg x i (k + i + 1) = s then (if r = 0 then nI (101 * i + k + 1) else pIn x s i K w (k + 1) (r + (-1))) else pIn x s i K w (k + 1) r
def pOut (x : Nat → Nat → Int32) (s : Int32) (n : Nat) : Nat → Nat → Int32 → Int32
  | 0, _, _ => -1
  | w + 1, i, r => pIn x s i (fun r => pOut x s n w (i + 1) r) (n - (i + 1)) 0 r
def pO (x : Nat → Nat → Int32) (s : Int32) (n i : Nat) (r : Int32) : Int32 := pOut x s n (n - i) i r
def pI (x : Nat → Nat → Int32) (s : Int32) (n i k : Nat) (r : Int32) : Int32 := pIn x s i (fun r => pO x s n (i + 1) r) (n - (i + 1) - k) k r
theorem pO_end {x : Nat → Nat → Int32} {s : Int32} {n : Nat} {r : Int32} : pO x s n n r = -1 := by rw [pO, Nat.sub_self, pOut]
theorem pO_in {x : Nat → Nat → Int32} {s : Int32} {n i : Nat} {r : Int32} (h : i < n) : pO x s n i r = pI x s n i 0 r := by
  rw [pO, show n - i = (n - (i + 1)) + 1 by omega, pOut, pI]
  rfl
theorem pI_end {x : Nat → Nat → Int32} {s : Int32} {n i w : Nat} {r : Int32} (h : n = i + 1 + w) : pI x s n i w r = pO x s n (i + 1) r := by rw [pI, show n - (i + 1) - w = 0 by omega, pIn]
theorem pI_hit {x : Nat → Nat → Int32} {s : Int32} {n i k w : Nat} {r : Int32} (h : n = i + 1 + w) (hk : k < w) (h1 : sg x i (k + i + 1) = s) (h2 : r = 0) : pI x s n i k r = nI (101 * i + k + 1) := by
  rw [pI, show n - (i + 1) - k = (n - (i + 1) - (k + 1)) + 1 by omega, pIn, if_pos h1, if_pos h2]
theorem pI_go {x : Nat → Nat → Int32} {s : Int32} {n i k w : Nat} {r : Int32} (h : n = i + 1 + w) (hk : k < w) (h1 : sg x i (k + i + 1) = s) (h2 : ¬ r = 0) : pI x s n i k r = pI x s n i (k + 1) (r + (-1)) := by
  rw [pI, show n - (i + 1) - k = (n - (i + 1) - (k + 1)) + 1 by omega, pIn, if_pos h1, if_neg h2, pI]
theorem pI_miss {x : Nat → Nat → Int32} {s : Int32} {n i k w : Nat} {r : Int32} (h : n = i + 1 + w) (hk : k < w) (h1 : ¬ sg x i (k + i + 1) = s) : pI x s n i k r = pI x s n i (k + 1) r := by
  rw [pI, show n - (i + 1) - k = (n - (i + 1) - (k + 1)) + 1 by omega, pIn, if_neg h1, pI]
def cardB (n : Nat) (a : Int32) : Bool := decide (¬ a < 0) && decide (a < nI n)
theorem bookB_1 {b : Int32} (h : bookB b = true) : ¬ b < 0 := by simp only [bookB, Bool.and_eq_true, decide_eq_true_eq] at h; exact h.1
theorem bookB_2 {b : Int32} (h : bookB b = true) : b < nI 3 := by simp only [bookB, Bool.and_eq_true, decide_eq_true_eq] at h; exact h.2
theorem bookB_3 {b : Int32} (h : bookB b = false) (h1 : ¬ b < 0) (h2 : b < nI 3) : False := by simp [bookB, h1, h2] at h
theorem cardB_3 {n : Nat} {a : Int32} (h : cardB n a = false) (h1 : ¬ a < 0) (h2 : a < nI n) : False := by simp [cardB, h1, h2] at h
theorem two_ok {v : Nat} (h : v < 2) : nI v = 0 ∨ nI v = nI 1 := by
  rcases (show v = 0 ∨ v = 1 by omega) with rfl | rfl
  · exact Or.inl rfl
  · exact Or.inr rfl
theorem kindB_ok {k : Nat} (h : k < 2) : kindB (nI k) = true := by
  rcases two_ok h with e | e <;> simp [kindB, e]
theorem chgB_ok {k : Nat} (h : k < 2) : chgB (nI k) = true := by
  rcases two_ok h with e | e <;> simp [chgB, e]
theorem verB_ok {k : Nat} (h : k < 3) : verB (nI k) = true := by
  rcases (show k < 2 ∨ k = 2 by omega) with h | rfl
  · simp [verB, chgB_ok h]
  · simp [verB]
theorem valueB_ok {k : Nat} (h : k < 30) : valueB (nI k) = true := by
  have h1 : ¬ nI k < 0 := nI_pos (by omega)
  have h2 : ¬ nI 30 ≤ nI k := nI_ge h (by decide)
  simp [valueB, h1, h2]
/-- sync -/
def syS (x : Nat → Nat → Int32) (b : Int32) : Nat → Nat → Nat → Int32
  | 0 => x
  | i + 1 => if syS x b i 4 i = b then mergeV (syS x b i) i else syS x b i
def syC (x : Nat → Nat → Int32) (b : Int32) : Nat → Int32
  | 0 => nI 0
  | i + 1 => if syS x b i 4 i = b ∧ clB (syS x b i 13 i) (syS x b i 14 i) (syS x b i 15 i) = true then syC x b i + nI 1 else syC x b i
def usC (x : Nat → Nat → Int32) (b : Int32) : Nat → Int32
  | 0 => nI 0
  | i + 1 => if x 4 i = b ∧ synB x i = false then usC x b i + nI 1 else usC x b i
/-- pairAt's way down -/
def pW (x : Nat → Nat → Int32) (n : Nat) : Nat → Int32 → Int32
  | 0, r => pO x (nI 0) n 0 r
  | s + 1, r => if r < x 12 (s + 1) then pO x (nI (s + 1)) n 0 r else pW x n s (r - x 12 (s + 1))
end
section
/-! THE REFERENCE'S WORDS, on its numbers y -/
def inB (v a b : Int32) : Bool := decide (¬ v < a) && decide (¬ b < v)
theorem i_lt (a b : Int32) : a < b ↔ a.toInt < b.toInt := Int32.lt_iff_toInt_lt
theorem i_eq (a b : Int32) : a = b ↔ a.toInt = b.toInt := ⟨fun h => by rw [h], fun h => Int32.toInt_inj.mp h⟩
theorem inB_card {n : Nat} {a : Int32} (hn : n ≤ 24) : inB a (nI 0) (nI n - nI 1) = cardB n a := by
  have e1 : (nI n - nI 1).toInt = (n : Int) - 1 := by rw [pk_sub_toInt (by omega) (by omega)]; rfl
  have e2 : (nI n).toInt = (n : Int) := nI_toInt (by omega)
  have e3 : (0 : Int32).toInt = 0 := by decide
  unfold inB cardB
  rw [nI_0]
  congr 1
  rw [decide_eq_decide, i_lt, i_lt, e1, e2]
  omega
theorem inB_book {a : Int32} : inB a (nI 0) (nI 2) = bookB a := by
  have e1 : (nI 2).toInt = 2 := by decide
  have e2 : (nI 3).toInt = 3 := by decide
  unfold inB bookB
  rw [nI_0]
  congr 1
  rw [decide_eq_decide, i_lt, i_lt, e1, e2]
  omega
theorem inB_two {a : Int32} : inB a (nI 0) (nI 1) = (decide (a = 0) || decide (a = nI 1)) := by
  have e1 : (nI 1).toInt = 1 := by decide
  have e3 : (0 : Int32).toInt = 0 := by decide
  unfold inB
  rw [nI_0, Bool.eq_iff_iff]
  simp only [Bool.and_eq_true, Bool.or_eq_true, decide_eq_true_eq, i_lt, i_eq, e1, e3]
  omega
theorem inB_kind {a : Int32} : inB a (nI 0) (nI 1) = kindB a := inB_two
theorem inB_chg {a : Int32} : inB a (nI 0) (nI 1) = chgB a := inB_two
theorem inB_ver {a : Int32} : inB a (nI 0) (nI 2) = verB a := by
  have e1 : (nI 1).toInt = 1 := by decide
  have e2 : (nI 2).toInt = 2 := by decide
  have e3 : (0 : Int32).toInt = 0 := by decide
  unfold inB verB chgB
  rw [nI_0, Bool.eq_iff_iff]
  simp only [Bool.and_eq_true, Bool.or_eq_true, decide_eq_true_eq, i_lt, i_eq, e1, e2, e3]
  omega
theorem inB_name {a : Int32} : inB a (nI 0) (nI 31) = nameB a := by
  have e1 : (nI 31).toInt = 31 := by decide
  have e2 : (nI 32).toInt = 32 := by decide
  unfold inB nameB
  rw [nI_0]
  congr 1 <;> (rw [decide_eq_decide, i_lt, Int32.le_iff_toInt_le, e1, e2] <;> omega)
theorem inB_value {a : Int32} : inB a (nI 0) (nI 29) = valueB a := by
  have e1 : (nI 29).toInt = 29 := by decide
  have e2 : (nI 30).toInt = 30 := by decide
  unfold inB valueB
  rw [nI_0]
  congr 1 <;> (rw [decide_eq_decide, i_lt, Int32.le_iff_toInt_le, e1, e2] <;> omega)
theorem cardB_ok {n c : Nat} (h : c < n) (hn : n ≤ 24) : cardB n (nI c) = true := by
  simp [cardB, nI_pos (show c < 2 ^ 31 by omega), nI_lt h (by omega)]
theorem bit_bv : ∀ l, l < 32 → (bit l).toBitVec = BitVec.twoPow 32 l := by decide +kernel
/-- membership, by the bits -/
theorem hb_bv {s : Int32} {v : Nat} (hv : v < 32) : hasB s v = s.toBitVec.getLsbD v := by
  unfold hasB
  rw [Bool.eq_iff_iff, decide_eq_true_eq]
  rw [ne_eq, ← Int32.toBitVec_inj, Int32.toBitVec_and, bit_bv v hv]
  rw [show (0 : Int32).toBitVec = 0#32 from rfl]
  constructor
  · intro h
    cases hb : s.toBitVec.getLsbD v with
    | true => rfl
    | false =>
      refine absurd ?_ h
      apply BitVec.eq_of_getLsbD_eq
      intro i hi
      rw [BitVec.getLsbD_and, BitVec.getLsbD_twoPow]
      by_cases e : v = i
      · subst e; simp [hb]
      · simp [e]
  · intro h e
    have h9 : (s.toBitVec &&& BitVec.twoPow 32 v).getLsbD v = (0#32).getLsbD v := by rw [e]
    rw [BitVec.getLsbD_and, h, BitVec.getLsbD_twoPow] at h9
    simp [hv] at h9
theorem hb_or {a b : Int32} {v : Nat} (hv : v < 32) : hasB (a ||| b) v = (hasB a v || hasB b v) := by
  rw [hb_bv hv, hb_bv hv, hb_bv hv, Int32.toBitVec_or, BitVec.getLsbD_or]
theorem hb_and {a b : Int32} {v : Nat} (hv : v < 32) : hasB (a &&& b) v = (hasB a v && hasB b v) := by
  rw [hb_bv hv, hb_bv hv, hb_bv hv, Int32.toBitVec_and, BitVec.getLsbD_and]
theorem hb_xor {a b : Int32} {v : Nat} (hv : v < 32) : hasB (a ^^^ b) v = (hasB a v ^^ hasB b v) := by
  rw [hb_bv hv, hb_bv hv, hb_bv hv, Int32.toBitVec_xor, BitVec.getLsbD_xor]
theorem hb_0 {v : Nat} (hv : v < 32) : hasB (nI 0) v = false := by
  rw [hb_bv hv, show (nI 0).toBitVec = 0#32 from rfl, BitVec.getLsbD_zero]
theorem hb_m1 {v : Nat} (hv : v < 32) : hasB (-1) v = true := by
  rw [hb_bv hv, show (-1 : Int32).toBitVec = BitVec.allOnes 32 from by decide, BitVec.getLsbD_allOnes]
  simp [hv]
theorem hb_bit {c v : Nat} (hc : c < 32) (hv : v < 32) : hasB (bit c) v = decide (c = v) := by
  rw [hb_bv hv, bit_bv c hc, BitVec.getLsbD_twoPow]
  simp [hc]
theorem hb_ext {a b : Int32} (h : ∀ v, v < 32 → hasB a v = hasB b v) : a = b := by
  rw [← Int32.toBitVec_inj]
  apply BitVec.eq_of_getLsbD_eq
  intro i hi
  rw [← hb_bv hi, ← hb_bv hi]
  exact h i hi
/-- the reference's 'has' is the class's -/
theorem mhas {s : Int32} {v : Nat} (hv : v < 32) : ((s >>> (nI v &&& 31)) &&& nI 1 = nI 1) ↔ hasB s v = true := by
  have hs : ∀ l, l < 32 → ((nI l &&& 31).toBitVec.smod 32).toNat = l := by decide +kernel
  have hbit : hasB s v = s.toBitVec.getLsbD v := hb_bv hv
  rw [hbit, ← Int32.toBitVec_inj, Int32.toBitVec_and, Int32.toBitVec_shiftRight, show (nI 1).toBitVec = 1#32 from rfl]
  rw [show s.toBitVec.sshiftRight' ((nI v &&& 31).toBitVec.smod 32) = s.toBitVec.sshiftRight v from by rw [BitVec.sshiftRight', hs v hv]]
  constructor
  · intro e
    have h9 : (s.toBitVec.sshiftRight v &&& 1#32).getLsbD 0 = (1#32).getLsbD 0 := by rw [e]
    rw [BitVec.getLsbD_and, BitVec.getLsbD_sshiftRight] at h9
    simpa [hv] using h9
  · intro h
    apply BitVec.eq_of_getLsbD_eq
    intro i hi
    rw [BitVec.getLsbD_and]
    by_cases e : i = 0
    · subst e
      simp [BitVec.getLsbD_sshiftRight, hv, h]
    · have : (1#32).getLsbD i = false := by
        rw [show (1#32) = BitVec.twoPow 32 0 from rfl, BitVec.getLsbD_twoPow]
        simp [Ne.symm e]
      simp [this]
def cntV (a : Int32) : Nat → Int32
  | 0 => nI 0
  | i + 1 => cntV a i + ((a >>> (nI i &&& 31)) &&& nI 1)
def chF (y : Nat → Nat → Int32) (c : Nat) : Nat → Nat → Nat → Int32
  | 0 => up2 y 6 c (nI 0)
  | i + 1 => up2 (chF y c i) 6 i (chF y c i 6 i &&& (bit c ^^^ (-1)))
def mputS (y : Nat → Nat → Int32) (n c v k : Nat) (w : Int32) : Nat → Nat → Int32 := up2 (if v = 0 ∧ y 3 (6 * c + 2 * v + k) ≠ w then chF y c n else y) 3 (6 * c + 2 * v + k) w
def mputN (y : Nat → Nat → Int32) (n c v : Nat) (w : Int32) : Nat → Nat → Int32 := up2 (if v = 0 ∧ y 2 (3 * c + v) ≠ w then chF y c n else y) 2 (3 * c + v) w
theorem mputN_a {y : Nat → Nat → Int32} {n c v : Nat} {w : Int32} (h : v = 0) (h2 : ¬ y 2 (3 * c + v) = w) : mputN y n c v w = up2 (chF y c n) 2 (3 * c + v) w := by rw [mputN, if_pos ⟨h, h2⟩]
theorem mputN_b {y : Nat → Nat → Int32} {n c v : Nat} {w : Int32} (h : v ≠ 0) : mputN y n c v w = up2 y 2 (3 * c + v) w := by rw [mputN, if_neg (fun q => h q.1)]
theorem mputN_c {y : Nat → Nat → Int32} {n c v : Nat} {w : Int32} (h2 : y 2 (3 * c + v) = w) : mputN y n c v w = up2 y 2 (3 * c + v) w := by rw [mputN, if_neg (fun q => q.2 h2)]
theorem mputS_a {y : Nat → Nat → Int32} {n c v k : Nat} {w : Int32} (h : v = 0) (h2 : ¬ y 3 (6 * c + 2 * v + k) = w) : mputS y n c v k w = up2 (chF y c n) 3 (6 * c + 2 * v + k) w := by rw [mputS, if_pos ⟨h, h2⟩]
theorem mputS_b {y : Nat → Nat → Int32} {n c v k : Nat} {w : Int32} (h : v ≠ 0) : mputS y n c v k w = up2 y 3 (6 * c + 2 * v + k) w := by rw [mputS, if_neg (fun q => h q.1)]
theorem mputS_c {y : Nat → Nat → Int32} {n c v k : Nat} {w : Int32} (h2 : y 3 (6 * c + 2 * v + k) = w) : mputS y n c v k w = up2 y 3 (6 * c + 2 * v + k) w := by rw [mputS, if_neg (fun q => q.2 h2)]
def mNm (y : Nat → Nat → Int32) (c : Nat) : Int32 := mrgN (y 2 (3 * c)) (y 2 (3 * c + 1)) (y 2 (3 * c + 2))
def mSt (y : Nat → Nat → Int32) (c k : Nat) : Int32 := mrg (y 3 (6 * c + k)) (y 3 (6 * c + k + 2)) (y 3 (6 * c + k + 4))
def mputV (y : Nat → Nat → Int32) (n c v : Nat) (w a b : Int32) : Nat → Nat → Int32 := mputN (mputS (mputS y n c v 0 a) n c v 1 b) n c v w
def mmergeV (y : Nat → Nat → Int32) (n c : Nat) : Nat → Nat → Int32 := mputV (mputV (mputV y n c 0 (mNm y c) (mSt y c 0) (mSt y c 1)) n c 1 (mNm y c) (mSt y c 0) (mSt y c 1)) n c 2 (mNm y c) (mSt y c 0) (mSt y c 1)
def mappE (y : Nat → Nat → Int32) (n : Nat) (b w : Int32) : Nat → Nat → Int32 := up2 (up2 (up2 (up2 y 1 n b) 2 (3 * n) w) 2 (3 * n + 1) w) 2 (3 * n + 2) w
def mcl (y : Nat → Nat → Int32) (c : Nat) : Bool := clB (y 2 (3 * c)) (y 2 (3 * c + 1)) (y 2 (3 * c + 2))
def msyS (y : Nat → Nat → Int32) (n : Nat) (b : Int32) : Nat → Nat → Nat → Int32
  | 0 => y
  | i + 1 => if msyS y n b i 1 i = b then mmergeV (msyS y n b i) n i else msyS y n b i
def msyC (y : Nat → Nat → Int32) (n : Nat) (b : Int32) : Nat → Int32
  | 0 => nI 0
  | i + 1 => if msyS y n b i 1 i = b then msyC y n b i + (if mcl (msyS y n b i) i = true then nI 1 else nI 0) else msyC y n b i
def msynB (y : Nat → Nat → Int32) (c : Nat) : Bool := decide (y 2 (3 * c) = mNm y c) && decide (y 3 (6 * c) = mSt y c 0) && decide (y 3 (6 * c + 1) = mSt y c 1) && decide (y 2 (3 * c + 1) = mNm y c) && decide (y 3 (6 * c + 2) = mSt y c 0) && decide (y 3 (6 * c + 3) = mSt y c 1) && decide (y 2 (3 * c + 2) = mNm y c) && decide (y 3 (6 * c + 4) = mSt y c 0) && decide (y 3 (6 * c + 5) = mSt y c 1)
def musC (y : Nat → Nat → Int32) (b : Int32) : Nat → Int32
  | 0 => nI 0
  | i + 1 => musC y b i + (if y 1 i = b ∧ msynB y i = false then nI 1 else nI 0)
/-- groups: the way of the reference -/
def pasF (L : Nat → Int32) (a : Int32) : Nat → Int32
  | 0 => a
  | i + 1 => pasF L a i ||| (if hasB (pasF L a i) i = true then L i else nI 0)
/-- r is the set of all to which one comes from c by L -/
def isGrp (L : Nat → Int32) (n c : Nat) (r : Int32) : Prop := hasB r c = true ∧ (∀ i, i < n → hasB r i = true → ∀ j, j < 32 → hasB (L i) j = true → hasB r j = true) ∧ ∀ S : Nat → Prop, S c → (∀ i, i < n → S i → ∀ j, j < 32 → hasB (L i) j = true → S j) → ∀ j, j < 32 → hasB r j = true → S j
def zc (a : Int32) : Nat := ((List.range 32).filter (fun j => !hasB a j)).length
def orM (g : Int32) (s : Nat → Int32) : Nat → Int32
  | 0 => nI 0
  | i + 1 => orM g s i ||| (if hasB g i = true then s i else nI 0)
def cntM (q : Nat → Bool) : Nat → Int32
  | 0 => nI 0
  | i + 1 => cntM q i + (if q i = true then nI 1 else nI 0)
def prefM (b : Nat → Int32) (g : Int32) (c : Nat) : Nat → Nat := prefF b g c
def mtkS (y : Nat → Nat → Int32) (n : Nat) (g : Int32) (k v : Nat) : Nat → Nat → Nat → Int32
  | 0 => y
  | i + 1 => if (hasB g i && hasB (mtkS y n g k v i 3 (6 * i + k)) v) = true then mputS (mtkS y n g k v i) n i 0 k (mtkS y n g k v i 3 (6 * i + k) &&& (bit v ^^^ (-1))) else mtkS y n g k v i
def mtkC (y : Nat → Nat → Int32) (n : Nat) (g : Int32) (k v : Nat) : Nat → Int32
  | 0 => nI 0
  | i + 1 => if (hasB g i && hasB (mtkS y n g k v i 3 (6 * i + k)) v) = true then mtkC y n g k v i ||| bit i else mtkC y n g k v i
def mlnk (y : Nat → Nat → Int32) (c d : Nat) : Nat → Nat → Int32 := up2 (up2 y 4 c (y 4 c ||| bit d)) 4 d ((up2 y 4 c (y 4 c ||| bit d)) 4 d ||| bit c)
def mcut (y : Nat → Nat → Int32) (c d : Nat) : Nat → Nat → Int32 := up2 (up2 y 4 c (y 4 c &&& (bit d ^^^ (-1)))) 4 d ((up2 y 4 c (y 4 c &&& (bit d ^^^ (-1)))) 4 d &&& (bit c ^^^ (-1)))
def alk (y : Nat → Nat → Int32) (c d : Nat) : Int32 := (nI 3 * cntV (y 3 (6 * c) &&& y 3 (6 * d)) 30 + nI 2 * cntV (y 3 (6 * c + 1) &&& y 3 (6 * d + 1)) 30) + (if y 2 (3 * c) = y 2 (3 * d) then nI 2 else nI 0)
def msc (y : Nat → Nat → Int32) (g : Nat → Int32) (c d : Nat) : Int32 := if hasB (g c) d = true then nI 0 else alk y c d
def msug (y : Nat → Nat → Int32) (g : Nat → Int32) (c d : Nat) : Bool := !hasB (y 5 c) d && !hasB (y 6 c) d && decide (¬ msc y g c d ≤ 0)
def fndB (y : Nat → Nat → Int32) (g : Nat → Int32) (c d : Nat) : Bool := !hasB (g c) d && !hasB (y 5 c) d && !hasB (y 6 c) d
def fV (y : Nat → Nat → Int32) (g : Nat → Int32) (c d : Nat) : Int32 := if fndB y g c d = true then alk y c d else nI 0
def finS (y : Nat → Nat → Int32) (g : Nat → Int32) (c : Nat) : Nat → Nat → Nat → Int32
  | 0 => y
  | k + 1 => up2 (finS y g c k) 7 (25 * c + k + 1) (fV (finS y g c k) g c (k + c + 1))
def finC (y : Nat → Nat → Int32) (g : Nat → Int32) (c : Nat) (r : Int32) : Nat → Int32
  | 0 => r
  | k + 1 => finC y g c r k + (if fV (finS y g c k) g c (k + c + 1) ≤ 0 then nI 0 else nI 1)
def fouS (y : Nat → Nat → Int32) (g : Nat → Int32) (n : Nat) : Nat → Nat → Nat → Int32
  | 0 => y
  | i + 1 => finS (fouS y g n i) g i (n - (i + 1))
def fouC (y : Nat → Nat → Int32) (g : Nat → Int32) (n : Nat) : Nat → Int32
  | 0 => nI 0
  | i + 1 => finC (fouS y g n i) g i (fouC y g n i) (n - (i + 1))
theorem fouS_s {y : Nat → Nat → Int32} {g : Nat → Int32} {n i w : Nat} (h : n = i + 1 + w) : fouS y g n (i + 1) = finS (fouS y g n i) g i w := by rw [fouS, show n - (i + 1) = w by omega]
theorem fouC_s {y : Nat → Nat → Int32} {g : Nat → Int32} {n i w : Nat} (h : n = i + 1 + w) : fouC y g n (i + 1) = finC (fouS y g n i) g i (fouC y g n i) w := by rw [fouC, show n - (i + 1) = w by omega]
theorem finS_4 {y : Nat → Nat → Int32} {g : Nat → Int32} {c a : Nat} (ha : a ≠ 7) : ∀ k, finS y g c k a = y a
  | 0 => rfl
  | k + 1 => by
    funext b
    rw [finS, up2_k ha, finS_4 ha k]
theorem fouS_4 {y : Nat → Nat → Int32} {g : Nat → Int32} {n a : Nat} (ha : a ≠ 7) : ∀ i, fouS y g n i a = y a
  | 0 => rfl
  | i + 1 => by rw [fouS, finS_4 ha, fouS_4 ha i]
def mfS (y : Nat → Nat → Int32) (g : Nat → Int32) (n : Nat) : Nat → Nat → Int32 := fouS y g n n
def mfC (y : Nat → Nat → Int32) (g : Nat → Int32) (n : Nat) : Int32 := fouC y g n n
def tdG (y : Nat → Nat → Int32) (c d : Nat) (s1 s2 t1 t2 : Int32) : Nat → Nat → Int32 := up2 (up2 (up2 (up2 y 5 c (y 5 c ||| s1)) 5 d ((up2 y 5 c (y 5 c ||| s1)) 5 d ||| s2)) 6 c ((up2 (up2 y 5 c (y 5 c ||| s1)) 5 d ((up2 y 5 c (y 5 c ||| s1)) 5 d ||| s2)) 6 c ||| t1)) 6 d ((up2 (up2 (up2 y 5 c (y 5 c ||| s1)) 5 d ((up2 y 5 c (y 5 c ||| s1)) 5 d ||| s2)) 6 c ((up2 (up2 y 5 c (y 5 c ||| s1)) 5 d ((up2 y 5 c (y 5 c ||| s1)) 5 d ||| s2)) 6 c ||| t1)) 6 d ||| t2)
theorem tdG_4 {y : Nat → Nat → Int32} {c d : Nat} {s1 s2 t1 t2 : Int32} : tdG y c d s1 s2 t1 t2 4 = y 4 := by
  funext b
  unfold tdG
  rw [up2_k (by decide), up2_k (by decide), up2_k (by decide), up2_k (by decide)]
/-- pairAt's choice: 0 for none, else the place and 1 -/
def fI : Nat → Int32
  | 0 => -1
  | j + 1 => nI j
theorem fI_ne {e : Nat} (h : ¬ fI e = -1) : fI e = nI (e - 1) := by
  cases e with
  | zero => exact absurd rfl h
  | succ e => rfl
theorem fI_nz {e : Nat} (h : e ≠ 0) : fI e = nI (e - 1) := by
  cases e with
  | zero => exact absurd rfl h
  | succ e => rfl
theorem fI_0 {e : Nat} (he : e ≤ 576) (h : fI e = -1) : e = 0 := by
  cases e with
  | zero => rfl
  | succ e =>
    exfalso
    have h2 : nI e < 0 := by rw [show nI e = -1 from h]; decide
    exact nI_pos (by omega) h2
def selT (y : Nat → Nat → Int32) (e a : Nat) : Nat := if ¬ y 7 a ≤ 0 ∧ (e = 0 ∨ ¬ y 7 a ≤ y 7 (e - 1)) then a + 1 else e
def selI (y : Nat → Nat → Int32) (c e : Nat) : Nat → Nat
  | 0 => e
  | k + 1 => selT y (selI y c e k) (25 * c + k + 1)
def selO (y : Nat → Nat → Int32) (n : Nat) : Nat → Nat
  | 0 => 0
  | i + 1 => selI y i (selO y n i) (n - (i + 1))
theorem selO_s {y : Nat → Nat → Int32} {n i w : Nat} (h : n = i + 1 + w) : selO y n (i + 1) = selI y i (selO y n i) w := by rw [selO, show n - (i + 1) = w by omega]
theorem selI_le {y : Nat → Nat → Int32} {c e : Nat} (he : e ≤ 576) : ∀ k, k + c + 1 ≤ 24 → selI y c e k ≤ 576
  | 0, _ => he
  | k + 1, h => by
    unfold selI selT
    split
    · omega
    · exact selI_le he k (by omega)
theorem selO_le {y : Nat → Nat → Int32} {n : Nat} (hn : n ≤ 24) : ∀ i, i ≤ n → selO y n i ≤ 576
  | 0, _ => Nat.zero_le _
  | i + 1, h => selI_le (selO_le hn i (by omega)) _ (by omega)
theorem selI_a {y : Nat → Nat → Int32} {c e k : Nat} (h : y 7 (25 * c + k + 1) ≤ 0) : selI y c e (k + 1) = selI y c e k := by rw [selI, selT, if_neg (fun q => q.1 h)]
theorem selI_b {y : Nat → Nat → Int32} {c e k : Nat} (h : ¬ y 7 (25 * c + k + 1) ≤ 0) (h2 : selI y c e k = 0) : selI y c e (k + 1) = 25 * c + k + 1 + 1 := by rw [selI, selT, if_pos ⟨h, Or.inl h2⟩]
theorem selI_c {y : Nat → Nat → Int32} {c e k : Nat} (h : ¬ y 7 (25 * c + k + 1) ≤ 0) (h2 : ¬ y 7 (25 * c + k + 1) ≤ y 7 (selI y c e k - 1)) : selI y c e (k + 1) = 25 * c + k + 1 + 1 := by rw [selI, selT, if_pos ⟨h, Or.inr h2⟩]
theorem selI_d {y : Nat → Nat → Int32} {c e k : Nat} (h0 : selI y c e k ≠ 0) (h2 : y 7 (25 * c + k + 1) ≤ y 7 (selI y c e k - 1)) : selI y c e (k + 1) = selI y c e k := by rw [selI, selT, if_neg (fun q => q.2.elim h0 (fun z => z h2))]
def selS (y : Nat → Nat → Int32) (n q : Nat) : Nat → Nat → Nat → Int32
  | 0 => y
  | k + 1 => up2 (selS y n q k) 7 (selO (selS y n q k) n n - 1) (if k < q then nI 0 else selS y n q k 7 (selO (selS y n q k) n n - 1))
def selF (y : Nat → Nat → Int32) (n q : Nat) : Nat → Int32
  | 0 => nI 0
  | k + 1 => fI (selO (selS y n q k) n n)

theorem pas_mono {L : Nat → Int32} {a : Int32} {j : Nat} (hj : j < 32) (h : hasB a j = true) : ∀ i, hasB (pasF L a i) j = true
  | 0 => h
  | i + 1 => by rw [pasF, hb_or hj, pas_mono hj h i, Bool.true_or]
theorem pas_up {L : Nat → Int32} {a : Int32} {j i : Nat} (hj : j < 32) (h : hasB (pasF L a i) j = true) : ∀ k, hasB (pasF L a (i + k)) j = true
  | 0 => h
  | k + 1 => by rw [show i + (k + 1) = (i + k) + 1 by omega, pasF, hb_or hj, pas_up hj h k, Bool.true_or]
theorem pas_sub {L : Nat → Int32} {a r : Int32} {n : Nat} (hn : n ≤ 32) (hr : ∀ i, i < n → hasB r i = true → ∀ j, j < 32 → hasB (L i) j = true → hasB r j = true) (h : ∀ j, j < 32 → hasB a j = true → hasB r j = true) : ∀ i, i ≤ n → ∀ j, j < 32 → hasB (pasF L a i) j = true → hasB r j = true
  | 0, _, j, hj, q => h j hj q
  | i + 1, hi, j, hj, q => by
    rw [pasF, hb_or hj, Bool.or_eq_true] at q
    rcases q with q | q
    · exact pas_sub hn hr h i (by omega) j hj q
    · by_cases hb : hasB (pasF L a i) i = true
      · rw [if_pos hb] at q
        exact hr i (by omega) (pas_sub hn hr h i (by omega) i (by omega) hb) j hj q
      · rw [if_neg hb, hb_0 hj] at q
        cases q
theorem pas_closed {L : Nat → Int32} {a : Int32} {n : Nat} (hn : n ≤ 32) (h : pasF L a n = a) : ∀ i, i < n → hasB a i = true → ∀ j, j < 32 → hasB (L i) j = true → hasB a j = true := by
  intro i hi ha j hj hL
  have h1 : hasB (pasF L a (i + 1)) j = true := by
    rw [pasF, hb_or hj, if_pos (pas_mono (by omega) ha i), hL, Bool.or_true]
  have h2 := pas_up hj h1 (n - (i + 1))
  rw [show i + 1 + (n - (i + 1)) = n by omega, h] at h2
  exact h2
theorem zc_lt {a b : Int32} (h : ∀ j, j < 32 → hasB a j = true → hasB b j = true) (hne : b ≠ a) : zc b < zc a := by
  have key : ∀ (l : List Nat), (∀ j ∈ l, j < 32) → (l.filter (fun j => !hasB b j)).length ≤ (l.filter (fun j => !hasB a j)).length ∧ ((∃ j ∈ l, hasB a j = false ∧ hasB b j = true) → (l.filter (fun j => !hasB b j)).length < (l.filter (fun j => !hasB a j)).length) := by
    intro l
    induction l with
    | nil => intro _; exact ⟨Nat.le_refl _, fun ⟨j, hj, _⟩ => by cases hj⟩
    | cons k l ih =>
      intro hl
      obtain ⟨i1, i2⟩ := ih (fun j hj => hl j (List.mem_cons_of_mem _ hj))
      have hk := hl k List.mem_cons_self
      cases ha : hasB a k <;> cases hb : hasB b k
      · simp only [List.filter_cons, ha, hb, Bool.not_false, if_true, List.length_cons]
        refine ⟨by omega, fun ⟨j, hj, q1, q2⟩ => ?_⟩
        rcases List.mem_cons.mp hj with rfl | hj
        · rw [hb] at q2; cases q2
        · have := i2 ⟨j, hj, q1, q2⟩
          omega
      · simp only [List.filter_cons, ha, hb, Bool.not_false, Bool.not_true, if_true, List.length_cons]
        refine ⟨by simp; omega, fun _ => by simp; omega⟩
      · rw [h k hk ha] at hb; cases hb
      · simp only [List.filter_cons, ha, hb, Bool.not_true]
        refine ⟨by simpa using i1, fun ⟨j, hj, q1, q2⟩ => ?_⟩
        rcases List.mem_cons.mp hj with rfl | hj
        · rw [ha] at q1; cases q1
        · simpa using i2 ⟨j, hj, q1, q2⟩
  refine (key (List.range 32) (fun j hj => List.mem_range.mp hj)).2 ?_
  apply Classical.byContradiction
  intro hno
  refine hne (hb_ext fun v hv => ?_)
  cases ha : hasB a v with
  | true => exact h v hv ha
  | false =>
    cases hb : hasB b v with
    | false => rfl
    | true => exact absurd ⟨v, List.mem_range.mpr hv, ha, hb⟩ hno
theorem zc_le (a : Int32) : zc a ≤ 32 := by
  unfold zc
  exact Nat.le_trans (List.length_filter_le _ _) (by rw [List.length_range]; exact Nat.le_refl _)
/-- the reference's way to a group, at its loop's head -/
def gq (L : Nat → Int32) (n c : Nat) (r a b : Int32) (f : Nat) : Prop := isGrp L n c r ∧ hasB a c = true ∧ (∀ j, j < 32 → hasB a j = true → hasB r j = true) ∧ (a = b → ∀ i, i < n → hasB a i = true → ∀ j, j < 32 → hasB (L i) j = true → hasB a j = true) ∧ (a = b ∨ zc a < f)
theorem gq_end {L : Nat → Int32} {n c : Nat} {r a b : Int32} {f : Nat} (hn : n ≤ 32) (h : gq L n c r a b f) (e : a = b) : a = r := by
  obtain ⟨⟨-, -, h3⟩, g1, g2, g3, -⟩ := h
  refine hb_ext fun v hv => ?_
  cases ha : hasB a v with
  | true => exact (g2 v hv ha).symm
  | false =>
    cases hr : hasB r v with
    | false => rfl
    | true =>
      have := h3 (fun j => hasB a j = true) g1 (fun i hi q j hj w => g3 e i hi q j hj w) v hv hr
      rw [ha] at this
      cases this
theorem gq_0 {L : Nat → Int32} {n c : Nat} {r a b : Int32} (h : gq L n c r a b 0) : a = b := h.2.2.2.2.elim id (fun q => absurd q (Nat.not_lt_zero _))
theorem gq_go {L : Nat → Int32} {n c : Nat} {r a b : Int32} {f : Nat} (hn : n ≤ 32) (hc : c < 32) (h : gq L n c r a b (f + 1)) (e : ¬ a = b) : gq L n c r (pasF L a n) a f := by
  obtain ⟨hr, g1, g2, g3, g4⟩ := h
  have hz := g4.resolve_left e
  refine ⟨hr, pas_mono hc g1 n, pas_sub hn hr.2.1 g2 n (Nat.le_refl _), fun q => by rw [q]; exact pas_closed hn q, ?_⟩
  by_cases q : pasF L a n = a
  · exact Or.inl q
  · right
    have := zc_lt (fun j hj w => pas_mono (L := L) hj w n) q
    omega
theorem gq_start {L : Nat → Int32} {n c : Nat} {r : Int32} (hc : c < 32) (h : isGrp L n c r) : gq L n c r (bit c) (nI 0) 33 := by
  have h1 : hasB (bit c) c = true := by rw [hb_bit hc hc]; simp
  refine ⟨h, h1, fun j hj q => ?_, fun e => ?_, Or.inr (Nat.lt_succ_of_le (zc_le _))⟩
  · rw [hb_bit hc hj] at q
    have := of_decide_eq_true q
    subst this
    exact h.1
  · rw [e, hb_0 hc] at h1
    cases h1

section CMD
variable {p : Program} {l : Launch} {e : Env} {R : Room} {s : State} {m : MethodId} {args : Array Value} {below : List Frame} {meth : Method} {c : Code} {H : Heap} {locs : List Loc} {cells slots : Nat} {Q : State → Prop} {cc : ByteArray} {pc : Nat} {ls : Array Slot} {rest : List Value}
theorem r_divN (hx : p.tables.exec = Jvm.exec) (hb : c.code = cc) {a b : Nat} (hdg : decode cc pc = .ok (.idiv, 1)) (ha : a < 2 ^ 31) (h0 : 0 < b) (hb2 : b < 2 ^ 31) (kk : W p l e R s m args below meth c H locs cells slots Q (F0 m (pc + 1) ls (.int (nI (a / b)) :: rest))) : W p l e R s m args below meth c H locs cells slots Q (F0 m pc ls (.int (nI b) :: .int (nI a) :: rest)) := lv_idiv hx hb hdg (nI_ne0 h0 hb2) (by rw [pk_div ha h0 hb2]; exact kk)
theorem r_remN (hx : p.tables.exec = Jvm.exec) (hb : c.code = cc) {a b : Nat} (hdg : decode cc pc = .ok (.irem, 1)) (ha : a < 2 ^ 31) (h0 : 0 < b) (hb2 : b < 2 ^ 31) (kk : W p l e R s m args below meth c H locs cells slots Q (F0 m (pc + 1) ls (.int (nI (a % b)) :: rest))) : W p l e R s m args below meth c H locs cells slots Q (F0 m pc ls (.int (nI b) :: .int (nI a) :: rest)) := lv_irem hx hb hdg (nI_ne0 h0 hb2) (by rw [pk_rem ha h0 hb2]; exact kk)
end CMD
end
section
set_option maxHeartbeats 4000000 in
set_option maxRecDepth 100000 in
theorem c_X4_isIn (l : Launch) (a : Int32) (b : Int32) (z : Int32) : Met l yX4_isIn wsX4_isIn ({ frames := 0, cells := 0, slots := 0, locals := 0 }) (va_Pc [.int a, .int b, .int z] (fun _ => True)) (qR (some (.int (bI (inB a b z))))) 0 0 nF := by
  refine c_ofP (cc := cX4_isIn) (maxL := 3) (ret := .boolean) (by decide) rfl (nar_bI _) (Nat.le_of_ble_eq_true rfl) ?_
  intro p e s m av below meth cd Q hx hb hF hret ls hl
  have hown : s.vm.findClass RX4 = some m.cls := hF.2.2.2.1
  have hF : CallFix p m cd cX4_isIn 3 s av wsX4_isIn RX4 := hF
  have hts := hF.2.2.2.2
  have hl : lv_has ls 3 [(0, .int a), (1, .int b), (2, .int z)] := hl
  refine lv_iload_n hx hb dX4_isIn_0 rfl (lv_at hl 0 rfl) ?_
  refine lv_iload_n hx hb dX4_isIn_1 rfl (lv_at hl 1 rfl) ?_
  refine lv_icmp_lt (tgt := 14) hx hb dX4_isIn_2 (by decide) (fun h2_1 => ?_) (fun h2_1 => ?_)
  · refine lv_iconst (v := nI 0) hx hb dX4_isIn_14 (by decide) ?_
    exact hret _ _ _ dX4_isIn_15 (by simp [inB, bI, h2_1])
  · refine lv_iload_n hx hb dX4_isIn_5 rfl (lv_at hl 0 rfl) ?_
    refine lv_iload_n hx hb dX4_isIn_6 rfl (lv_at hl 2 rfl) ?_
    refine lv_icmp_gt (tgt := 14) hx hb dX4_isIn_7 (by decide) (fun h7_2 => ?_) (fun h7_2 => ?_)
    · refine lv_iconst (v := nI 0) hx hb dX4_isIn_14 (by decide) ?_
      exact hret _ _ _ dX4_isIn_15 (by simp [inB, bI, h2_1, h7_2])
    · refine lv_iconst (v := nI 1) hx hb dX4_isIn_10 (by decide) ?_
      refine lv_goto (tgt := 15) hx hb dX4_isIn_11 (by decide) ?_
      exact hret _ _ _ dX4_isIn_15 (by simp [inB, bI, h2_1, h7_2])
set_option maxHeartbeats 4000000 in
set_option maxRecDepth 100000 in
theorem c_X4_isBook (l : Launch) (a : Int32) : Met l yX4_isBook wsX4_isBook ({ frames := 1, cells := 0, slots := 0, locals := 22 }) (va_Pc [.int a] (fun _ => True)) (qR (some (.int (bI (bookB a))))) 0 0 nF := by
  refine c_ofP (cc := cX4_isBook) (maxL := 1) (ret := .boolean) (by decide) rfl (nar_bI _) (Nat.le_of_ble_eq_true rfl) ?_
  intro p e s m av below meth cd Q hx hb hF hret ls hl
  have hown : s.vm.findClass RX4 = some m.cls := hF.2.2.2.1
  have hF : CallFix p m cd cX4_isBook 1 s av wsX4_isBook RX4 := hF
  have hts := hF.2.2.2.2
  have hl : lv_has ls 1 [(0, .int a)] := hl
  refine lv_iload_n hx hb dX4_isBook_0 rfl (lv_at hl 0 rfl) ?_
  refine lv_iconst (v := nI 0) hx hb dX4_isBook_1 (by decide) ?_
  refine lv_iconst (v := nI 2) hx hb dX4_isBook_2 (by decide) ?_
  refine k_Ri (va_runS (As := [.int a, .int (nI 0), .int (nI 2)]) (rest := []) hF (c_X4_isIn l a (nI 0) (nI 2)) (va_cwS 3 hts gX4_isBook_X4_isIn rfl rfl rfl (by decide +kernel) ⟨(Nat.le_of_ble_eq_true rfl), (Nat.le_of_ble_eq_true rfl)⟩) k_preS rfl rfl hl.1 rfl (lv_room (Nat.le_of_ble_eq_true rfl)) dX4_isBook_3 ⟨Nat.zero_le _, Nat.zero_le _⟩) ?_
  exact hret _ _ _ dX4_isBook_6 (congrArg bI inB_book)
set_option maxHeartbeats 4000000 in
set_option maxRecDepth 100000 in
theorem c_X4_isKind (l : Launch) (a : Int32) : Met l yX4_isKind wsX4_isKind ({ frames := 1, cells := 0, slots := 0, locals := 22 }) (va_Pc [.int a] (fun _ => True)) (qR (some (.int (bI (kindB a))))) 0 0 nF := by
  refine c_ofP (cc := cX4_isKind) (maxL := 1) (ret := .boolean) (by decide) rfl (nar_bI _) (Nat.le_of_ble_eq_true rfl) ?_
  intro p e s m av below meth cd Q hx hb hF hret ls hl
  have hown : s.vm.findClass RX4 = some m.cls := hF.2.2.2.1
  have hF : CallFix p m cd cX4_isKind 1 s av wsX4_isKind RX4 := hF
  have hts := hF.2.2.2.2
  have hl : lv_has ls 1 [(0, .int a)] := hl
  refine lv_iload_n hx hb dX4_isKind_0 rfl (lv_at hl 0 rfl) ?_
  refine lv_iconst (v := nI 0) hx hb dX4_isKind_1 (by decide) ?_
  refine lv_iconst (v := nI 1) hx hb dX4_isKind_2 (by decide) ?_
  refine k_Ri (va_runS (As := [.int a, .int (nI 0), .int (nI 1)]) (rest := []) hF (c_X4_isIn l a (nI 0) (nI 1)) (va_cwS 3 hts gX4_isKind_X4_isIn rfl rfl rfl (by decide +kernel) ⟨(Nat.le_of_ble_eq_true rfl), (Nat.le_of_ble_eq_true rfl)⟩) k_preS rfl rfl hl.1 rfl (lv_room (Nat.le_of_ble_eq_true rfl)) dX4_isKind_3 ⟨Nat.zero_le _, Nat.zero_le _⟩) ?_
  exact hret _ _ _ dX4_isKind_6 (congrArg bI inB_kind)
set_option maxHeartbeats 4000000 in
set_option maxRecDepth 100000 in
theorem c_X4_at (l : Launch) (c : Nat) (v : Nat) (k : Nat) (hc : c < 24) (hv : v < 3) (hk : k < 2) : Met l yX4_at wsX4_at ({ frames := 0, cells := 0, slots := 0, locals := 0 }) (va_Pc [.int (nI c), .int (nI v), .int (nI k)] (fun _ => True)) (qR (some (.int (nI (6 * c + 2 * v + k))))) 0 0 nF := by
  refine c_ofP (cc := cX4_at) (maxL := 3) (ret := .int) (by decide) rfl rfl (Nat.le_of_ble_eq_true rfl) ?_
  intro p e s m av below meth cd Q hx hb hF hret ls hl
  have hown : s.vm.findClass RX4 = some m.cls := hF.2.2.2.1
  have hF : CallFix p m cd cX4_at 3 s av wsX4_at RX4 := hF
  have hts := hF.2.2.2.2
  have hl : lv_has ls 3 [(0, .int (nI c)), (1, .int (nI v)), (2, .int (nI k))] := hl
  refine lv_iconst (v := nI 2) hx hb dX4_at_0 (by decide) ?_
  refine lv_iconst (v := nI 3) hx hb dX4_at_1 (by decide) ?_
  refine lv_iload_n hx hb dX4_at_2 rfl (lv_at hl 0 rfl) ?_
  refine r_mulN (a := 3) (b := c) (r := 3 * c) hx hb dX4_at_3 (by omega) ?_
  refine lv_iload_n hx hb dX4_at_4 rfl (lv_at hl 1 rfl) ?_
  refine r_addN (a := 3 * c) (b := v) (r := 3 * c + v) hx hb dX4_at_5 (by omega) ?_
  refine r_mulN (a := 2) (b := 3 * c + v) (r := 6 * c + 2 * v) hx hb dX4_at_6 (by omega) ?_
  refine lv_iload_n hx hb dX4_at_7 rfl (lv_at hl 2 rfl) ?_
  refine r_addN (a := 6 * c + 2 * v) (b := k) (r := 6 * c + 2 * v + k) hx hb dX4_at_8 (by omega) ?_
  exact hret _ _ _ dX4_at_9 (rfl)
set_option maxHeartbeats 4000000 in
set_option maxRecDepth 100000 in
theorem c_X4_count (l : Launch) (a : Int32) : Met l yX4_count wsX4_count ({ frames := 0, cells := 0, slots := 0, locals := 0 }) (va_Pc [.int a] (fun _ => True)) (qR (some (.int (cntV a 30)))) 0 0 nF := by
  refine c_ofP (cc := cX4_count) (maxL := 3) (ret := .int) (by decide) rfl rfl (Nat.le_of_ble_eq_true rfl) ?_
  intro p e s m av below meth cd Q hx hb hF hret ls hl
  have hown : s.vm.findClass RX4 = some m.cls := hF.2.2.2.1
  have hF : CallFix p m cd cX4_count 3 s av wsX4_count RX4 := hF
  have hts := hF.2.2.2.2
  have hl : lv_has ls 3 [(0, .int a)] := hl
  refine lv_iconst (v := nI 0) hx hb dX4_count_0 (by decide) ?_
  refine lv_istore_n (lv' := [(1, .int (nI 0)), (0, .int a)]) hx hb dX4_count_1 rfl hl (by decide) rfl (fun ls hl => ?_)
  refine lv_iconst (v := nI 0) hx hb dX4_count_2 (by decide) ?_
  refine lv_istore_n (lv' := [(2, .int (nI 0)), (1, .int (nI 0)), (0, .int a)]) hx hb dX4_count_3 rfl hl (by decide) rfl (fun ls hl => ?_)
  have hL4 : ∀ i : Nat, i ≤ 30 → ∀ ls : Array Slot, lv_has ls 3 [(0, .int a), (1, .int (cntV a i)), (2, .int (nI i))] → W p l e ({ frames := 0, cells := 0, slots := 0, locals := 0 }) s m av below meth cd s.heap [] 0 0 Q (F0 m 4 ls []) := by
    refine down (30) ?_ ?_
    · intro ls hl
      refine lv_iload_n hx hb dX4_count_4 rfl (lv_at hl 2 rfl) ?_
      refine lv_bipush (v := nI 30) hx hb dX4_count_5 (by decide) ?_
      refine r_cgeN (a := 30) (b := 30) (tgt := 24) hx hb (by omega) (by omega) dX4_count_7 (by decide) (fun _ => ?_) (fun h => absurd h (by omega))
      refine lv_iload_n hx hb dX4_count_24 rfl (lv_at hl 1 rfl) ?_
      exact hret _ _ _ dX4_count_25 (rfl)
    · intro i hi4 ih4 ls hl
      refine lv_iload_n hx hb dX4_count_4 rfl (lv_at hl 2 rfl) ?_
      refine lv_bipush (v := nI 30) hx hb dX4_count_5 (by decide) ?_
      refine r_cgeN (a := i) (b := 30) (tgt := 24) hx hb (by omega) (by omega) dX4_count_7 (by decide) (fun h => absurd h (by omega)) (fun _ => ?_)
      refine lv_iload_n hx hb dX4_count_10 rfl (lv_at hl 1 rfl) ?_
      refine lv_iload_n hx hb dX4_count_11 rfl (lv_at hl 0 rfl) ?_
      refine lv_iload_n hx hb dX4_count_12 rfl (lv_at hl 2 rfl) ?_
      refine lv_ishr hx hb dX4_count_13 ?_
      refine lv_iconst (v := nI 1) hx hb dX4_count_14 (by decide) ?_
      refine lv_iand hx hb dX4_count_15 ?_
      refine lv_iadd hx hb dX4_count_16 ?_
      refine lv_istore_n (lv' := [(1, .int ((cntV a i) + ((a >>> ((nI i) &&& 31)) &&& (nI 1)))), (0, .int a), (2, .int (nI i))]) hx hb dX4_count_17 rfl hl (by decide) rfl (fun ls hl => ?_)
      refine r_iincN (k := 2) (a := i) (d := 1) (r := i + 1) (lv' := [(2, .int (nI (i + 1))), (1, .int ((cntV a i) + ((a >>> ((nI i) &&& 31)) &&& (nI 1)))), (0, .int a)]) hx hb dX4_count_18 hl rfl (by omega) (by decide) rfl (fun ls hl => ?_)
      refine lv_goto (tgt := 4) hx hb dX4_count_21 (by decide) ?_
      exact ih4 _ (lv_cast (lv_sub (l' := [(0, .int a), (1, .int ((cntV a i) + ((a >>> ((nI i) &&& 31)) &&& (nI 1)))), (2, .int (nI (i + 1)))]) hl [2, 1, 0] rfl) (by rw [show (cntV a (i + 1) : Int32) = (cntV a i) + ((a >>> ((nI i) &&& 31)) &&& (nI 1)) from rfl]))
  exact hL4 0 (Nat.zero_le _) _ (lv_cast (lv_sub (l' := [(0, .int a), (1, .int (nI 0)), (2, .int (nI 0))]) hl [2, 1, 0] rfl) (by rw [show (cntV a 0 : Int32) = nI 0 from rfl]))
set_option maxHeartbeats 4000000 in
set_option maxRecDepth 100000 in
theorem c_X4_has (l : Launch) (c : Nat) (s9 : Int32) (hc : c < 32) : Met l yX4_has wsX4_has ({ frames := 0, cells := 0, slots := 0, locals := 0 }) (va_Pc [.int s9, .int (nI c)] (fun _ => True)) (qR (some (.int (bI (hasB s9 c))))) 0 0 nF := by
  refine c_ofP (cc := cX4_has) (maxL := 2) (ret := .boolean) (by decide) rfl (nar_bI _) (Nat.le_of_ble_eq_true rfl) ?_
  intro p e s m av below meth cd Q hx hb hF hret ls hl
  have hown : s.vm.findClass RX4 = some m.cls := hF.2.2.2.1
  have hF : CallFix p m cd cX4_has 2 s av wsX4_has RX4 := hF
  have hts := hF.2.2.2.2
  have hl : lv_has ls 2 [(0, .int s9), (1, .int (nI c))] := hl
  refine lv_iload_n hx hb dX4_has_0 rfl (lv_at hl 0 rfl) ?_
  refine lv_iload_n hx hb dX4_has_1 rfl (lv_at hl 1 rfl) ?_
  refine lv_ishr hx hb dX4_has_2 ?_
  refine lv_iconst (v := nI 1) hx hb dX4_has_3 (by decide) ?_
  refine lv_iand hx hb dX4_has_4 ?_
  refine lv_iconst (v := nI 1) hx hb dX4_has_5 (by decide) ?_
  refine lv_icmp_ne (tgt := 13) hx hb dX4_has_6 (by decide) (fun h6_1 => ?_) (fun h6_1 => ?_)
  · refine lv_iconst (v := nI 0) hx hb dX4_has_13 (by decide) ?_
    exact hret _ _ _ dX4_has_14 (by first | (rw [show hasB s9 c = true from (mhas hc).mp (by assumption)]; rfl) | (rw [show hasB s9 c = false from Bool.eq_false_iff.mpr (fun q => absurd ((mhas hc).mpr q) (by assumption))]; rfl))
  · refine lv_iconst (v := nI 1) hx hb dX4_has_9 (by decide) ?_
    refine lv_goto (tgt := 14) hx hb dX4_has_10 (by decide) ?_
    exact hret _ _ _ dX4_has_14 (by first | (rw [show hasB s9 c = true from (mhas hc).mp (by assumption)]; rfl) | (rw [show hasB s9 c = false from Bool.eq_false_iff.mpr (fun q => absurd ((mhas hc).mpr q) (by assumption))]; rfl))
set_option maxHeartbeats 4000000 in
set_option maxRecDepth 100000 in
theorem c_X4_isCard (l : Launch) (D : va_G) (cI : ClassId) (cA : ClassId) (ad : Nat → Nat) (th : Int32) (n : Nat) (y : Nat → Nat → Int32) (a : Int32) (hn : n ≤ 24) : Met l yX4_isCard wsX4_isCard ({ frames := 1, cells := 0, slots := 0, locals := 22 }) (va_Pc [.ref (ad 0), .int a] (mX D cI cA ad th n y)) (qR (some (.int (bI (cardB n a))))) 0 0 nF := by
  refine c_ofR (cc := cX4_isCard) (maxL := 2) (ret := .boolean) (by decide) rfl (nar_bI _) (Nat.le_of_ble_eq_true rfl) ?_
  intro p e s m av below meth cd Q hx hb hF hP hK hD hT hret ls hl
  have hown : s.vm.findClass RX4 = some m.cls := hF.2.2.2.1
  have hF : CallFix p m cd cX4_isCard 2 s av wsX4_isCard RX4 := hF
  have hts := hF.2.2.2.2
  have hl : lv_has ls 2 [(0, .ref (ad 0)), (1, .int a)] := hl
  refine lv_iload_n hx hb dX4_isCard_0 rfl (lv_at hl 1 rfl) ?_
  refine lv_iconst (v := nI 0) hx hb dX4_isCard_1 (by decide) ?_
  refine lv_aload_n hx hb dX4_isCard_2 rfl (lv_at hl 0 rfl) ?_
  refine r_get (C := RX4) (T := TX4) (M := 9) (index := 35) (fd := "cards") (fo := "I") hx hb hts (by decide +kernel) hown hK hP 0 (by decide) mF_0 rfl 7 (by decide) rfl (by decide +kernel) rfl dX4_isCard_3 ?_
  refine lv_iconst (v := nI 1) hx hb dX4_isCard_6 (by decide) ?_
  refine lv_isub hx hb dX4_isCard_7 ?_
  refine k_Ri (va_runS (As := [.int a, .int (nI 0), .int ((nI n) - (nI 1))]) (rest := []) hF (c_X4_isIn l a (nI 0) ((nI n) - (nI 1))) (va_cwS 3 hts gX4_isCard_X4_isIn rfl rfl rfl (by decide +kernel) ⟨(Nat.le_of_ble_eq_true rfl), (Nat.le_of_ble_eq_true rfl)⟩) k_preS rfl rfl hl.1 rfl (lv_room (Nat.le_of_ble_eq_true rfl)) dX4_isCard_8 ⟨Nat.zero_le _, Nat.zero_le _⟩) ?_
  exact hret _ _ _ dX4_isCard_11 (congrArg bI (inB_card hn))
set_option maxHeartbeats 4000000 in
set_option maxRecDepth 100000 in
theorem c_X4_isFine_0 (l : Launch) (D : va_G) (cI : ClassId) (cA : ClassId) (ad : Nat → Nat) (th : Int32) (n : Nat) (y : Nat → Nat → Int32) : Met l yX4_isFine wsX4_isFine ({ frames := 0, cells := 0, slots := 0, locals := 0 }) (va_Pc [.ref (ad 0), .int (nI 0)] (mX D cI cA ad th n y)) (qW D ad (mF cI ad (nI 0) n y) 8 (some (.int (bI true)))) 0 0 (wA ad 8) := by
  refine c_ofW (cc := cX4_isFine) (maxL := 2) (ret := .boolean) (by decide) rfl (nar_bI _) (Nat.le_of_ble_eq_true rfl) ?_
  intro p e s m av below meth cd Q hx hb hF hP hK hD hT hret ls hl
  have hown : s.vm.findClass RX4 = some m.cls := hF.2.2.2.1
  have hF : CallFix p m cd cX4_isFine 2 s av wsX4_isFine RX4 := hF
  have hts := hF.2.2.2.2
  have hl : lv_has ls 2 [(0, .ref (ad 0)), (1, .int (nI 0))] := hl
  obtain ⟨H, eH⟩ : ∃ H9 : Heap, H9 = s.heap := ⟨_, rfl⟩
  obtain ⟨locs, eL⟩ : ∃ L9 : List Loc, L9 = [] := ⟨_, rfl⟩
  have hS : sS (wA ad 8) s.heap H locs := by rw [eH, eL]; exact sS.rf
  rw [← eH] at hP
  suffices hgo : W p l e ({ frames := 0, cells := 0, slots := 0, locals := 0 }) s m av below meth cd H locs 0 0 Q (F0 m 0 ls []) by rw [eH, eL] at hgo; exact hgo
  clear eH eL
  refine lv_aload_n hx hb dX4_isFine_0 rfl (lv_at hl 0 rfl) ?_
  refine lv_iload_n hx hb dX4_isFine_1 rfl (lv_at hl 1 rfl) ?_
  refine r_put (C := RX4) (T := TX4) (M := 9) (index := 31) (fd := "thrown") (f' := mF cI ad (nI 0) n y) hx hb hts (by decide +kernel) tyX4 tyX4_ok nmX4 hown hK hP hD hS 0 (by decide) mF_0 rfl 0 (by decide) rfl (by decide +kernel) (Nat.le_of_ble_eq_true rfl) mF_th dX4_isFine_2 (fun H locs hP hS => ?_)
  refine lv_iload_n hx hb dX4_isFine_5 rfl (lv_at hl 1 rfl) ?_
  refine r_ifneN (a := 0) (tgt := 13) hx hb (by omega) dX4_isFine_6 (by decide) (fun h => absurd h (by omega)) (fun _ => ?_)
  refine lv_iconst (v := nI 1) hx hb dX4_isFine_9 (by decide) ?_
  refine lv_goto (tgt := 14) hx hb dX4_isFine_10 (by decide) ?_
  exact hret _ _ _ _ _ _ hP hS dX4_isFine_14 (rfl) (rfl)
set_option maxHeartbeats 4000000 in
set_option maxRecDepth 100000 in
theorem c_X4_isFine_1 (l : Launch) (D : va_G) (cI : ClassId) (cA : ClassId) (ad : Nat → Nat) (th : Int32) (n : Nat) (y : Nat → Nat → Int32) : Met l yX4_isFine wsX4_isFine ({ frames := 0, cells := 0, slots := 0, locals := 0 }) (va_Pc [.ref (ad 0), .int (nI 1)] (mX D cI cA ad th n y)) (qW D ad (mF cI ad (nI 1) n y) 8 (some (.int (bI false)))) 0 0 (wA ad 8) := by
  refine c_ofW (cc := cX4_isFine) (maxL := 2) (ret := .boolean) (by decide) rfl (nar_bI _) (Nat.le_of_ble_eq_true rfl) ?_
  intro p e s m av below meth cd Q hx hb hF hP hK hD hT hret ls hl
  have hown : s.vm.findClass RX4 = some m.cls := hF.2.2.2.1
  have hF : CallFix p m cd cX4_isFine 2 s av wsX4_isFine RX4 := hF
  have hts := hF.2.2.2.2
  have hl : lv_has ls 2 [(0, .ref (ad 0)), (1, .int (nI 1))] := hl
  obtain ⟨H, eH⟩ : ∃ H9 : Heap, H9 = s.heap := ⟨_, rfl⟩
  obtain ⟨locs, eL⟩ : ∃ L9 : List Loc, L9 = [] := ⟨_, rfl⟩
  have hS : sS (wA ad 8) s.heap H locs := by rw [eH, eL]; exact sS.rf
  rw [← eH] at hP
  suffices hgo : W p l e ({ frames := 0, cells := 0, slots := 0, locals := 0 }) s m av below meth cd H locs 0 0 Q (F0 m 0 ls []) by rw [eH, eL] at hgo; exact hgo
  clear eH eL
  refine lv_aload_n hx hb dX4_isFine_0 rfl (lv_at hl 0 rfl) ?_
  refine lv_iload_n hx hb dX4_isFine_1 rfl (lv_at hl 1 rfl) ?_
  refine r_put (C := RX4) (T := TX4) (M := 9) (index := 31) (fd := "thrown") (f' := mF cI ad (nI 1) n y) hx hb hts (by decide +kernel) tyX4 tyX4_ok nmX4 hown hK hP hD hS 0 (by decide) mF_0 rfl 0 (by decide) rfl (by decide +kernel) (Nat.le_of_ble_eq_true rfl) mF_th dX4_isFine_2 (fun H locs hP hS => ?_)
  refine lv_iload_n hx hb dX4_isFine_5 rfl (lv_at hl 1 rfl) ?_
  refine r_ifneN (a := 1) (tgt := 13) hx hb (by omega) dX4_isFine_6 (by decide) (fun _ => ?_) (fun h => absurd h (by omega))
  refine lv_iconst (v := nI 0) hx hb dX4_isFine_13 (by decide) ?_
  exact hret _ _ _ _ _ _ hP hS dX4_isFine_14 (rfl) (rfl)
set_option maxHeartbeats 4000000 in
set_option maxRecDepth 100000 in
theorem c_X4_isFine_2 (l : Launch) (D : va_G) (cI : ClassId) (cA : ClassId) (ad : Nat → Nat) (th : Int32) (n : Nat) (y : Nat → Nat → Int32) : Met l yX4_isFine wsX4_isFine ({ frames := 0, cells := 0, slots := 0, locals := 0 }) (va_Pc [.ref (ad 0), .int (nI 2)] (mX D cI cA ad th n y)) (qW D ad (mF cI ad (nI 2) n y) 8 (some (.int (bI false)))) 0 0 (wA ad 8) := by
  refine c_ofW (cc := cX4_isFine) (maxL := 2) (ret := .boolean) (by decide) rfl (nar_bI _) (Nat.le_of_ble_eq_true rfl) ?_
  intro p e s m av below meth cd Q hx hb hF hP hK hD hT hret ls hl
  have hown : s.vm.findClass RX4 = some m.cls := hF.2.2.2.1
  have hF : CallFix p m cd cX4_isFine 2 s av wsX4_isFine RX4 := hF
  have hts := hF.2.2.2.2
  have hl : lv_has ls 2 [(0, .ref (ad 0)), (1, .int (nI 2))] := hl
  obtain ⟨H, eH⟩ : ∃ H9 : Heap, H9 = s.heap := ⟨_, rfl⟩
  obtain ⟨locs, eL⟩ : ∃ L9 : List Loc, L9 = [] := ⟨_, rfl⟩
  have hS : sS (wA ad 8) s.heap H locs := by rw [eH, eL]; exact sS.rf
  rw [← eH] at hP
  suffices hgo : W p l e ({ frames := 0, cells := 0, slots := 0, locals := 0 }) s m av below meth cd H locs 0 0 Q (F0 m 0 ls []) by rw [eH, eL] at hgo; exact hgo
  clear eH eL
  refine lv_aload_n hx hb dX4_isFine_0 rfl (lv_at hl 0 rfl) ?_
  refine lv_iload_n hx hb dX4_isFine_1 rfl (lv_at hl 1 rfl) ?_
  refine r_put (C := RX4) (T := TX4) (M := 9) (index := 31) (fd := "thrown") (f' := mF cI ad (nI 2) n y) hx hb hts (by decide +kernel) tyX4 tyX4_ok nmX4 hown hK hP hD hS 0 (by decide) mF_0 rfl 0 (by decide) rfl (by decide +kernel) (Nat.le_of_ble_eq_true rfl) mF_th dX4_isFine_2 (fun H locs hP hS => ?_)
  refine lv_iload_n hx hb dX4_isFine_5 rfl (lv_at hl 1 rfl) ?_
  refine r_ifneN (a := 2) (tgt := 13) hx hb (by omega) dX4_isFine_6 (by decide) (fun _ => ?_) (fun h => absurd h (by omega))
  refine lv_iconst (v := nI 0) hx hb dX4_isFine_13 (by decide) ?_
  exact hret _ _ _ _ _ _ hP hS dX4_isFine_14 (rfl) (rfl)
set_option maxHeartbeats 4000000 in
set_option maxRecDepth 100000 in
theorem c_X4_isFine_3 (l : Launch) (D : va_G) (cI : ClassId) (cA : ClassId) (ad : Nat → Nat) (th : Int32) (n : Nat) (y : Nat → Nat → Int32) : Met l yX4_isFine wsX4_isFine ({ frames := 0, cells := 0, slots := 0, locals := 0 }) (va_Pc [.ref (ad 0), .int (nI 3)] (mX D cI cA ad th n y)) (qW D ad (mF cI ad (nI 3) n y) 8 (some (.int (bI false)))) 0 0 (wA ad 8) := by
  refine c_ofW (cc := cX4_isFine) (maxL := 2) (ret := .boolean) (by decide) rfl (nar_bI _) (Nat.le_of_ble_eq_true rfl) ?_
  intro p e s m av below meth cd Q hx hb hF hP hK hD hT hret ls hl
  have hown : s.vm.findClass RX4 = some m.cls := hF.2.2.2.1
  have hF : CallFix p m cd cX4_isFine 2 s av wsX4_isFine RX4 := hF
  have hts := hF.2.2.2.2
  have hl : lv_has ls 2 [(0, .ref (ad 0)), (1, .int (nI 3))] := hl
  obtain ⟨H, eH⟩ : ∃ H9 : Heap, H9 = s.heap := ⟨_, rfl⟩
  obtain ⟨locs, eL⟩ : ∃ L9 : List Loc, L9 = [] := ⟨_, rfl⟩
  have hS : sS (wA ad 8) s.heap H locs := by rw [eH, eL]; exact sS.rf
  rw [← eH] at hP
  suffices hgo : W p l e ({ frames := 0, cells := 0, slots := 0, locals := 0 }) s m av below meth cd H locs 0 0 Q (F0 m 0 ls []) by rw [eH, eL] at hgo; exact hgo
  clear eH eL
  refine lv_aload_n hx hb dX4_isFine_0 rfl (lv_at hl 0 rfl) ?_
  refine lv_iload_n hx hb dX4_isFine_1 rfl (lv_at hl 1 rfl) ?_
  refine r_put (C := RX4) (T := TX4) (M := 9) (index := 31) (fd := "thrown") (f' := mF cI ad (nI 3) n y) hx hb hts (by decide +kernel) tyX4 tyX4_ok nmX4 hown hK hP hD hS 0 (by decide) mF_0 rfl 0 (by decide) rfl (by decide +kernel) (Nat.le_of_ble_eq_true rfl) mF_th dX4_isFine_2 (fun H locs hP hS => ?_)
  refine lv_iload_n hx hb dX4_isFine_5 rfl (lv_at hl 1 rfl) ?_
  refine r_ifneN (a := 3) (tgt := 13) hx hb (by omega) dX4_isFine_6 (by decide) (fun _ => ?_) (fun h => absurd h (by omega))
  refine lv_iconst (v := nI 0) hx hb dX4_isFine_13 (by decide) ?_
  exact hret _ _ _ _ _ _ hP hS dX4_isFine_14 (rfl) (rfl)
set_option maxHeartbeats 4000000 in
set_option maxRecDepth 100000 in
theorem c_X4_thrown (l : Launch) (D : va_G) (cI : ClassId) (cA : ClassId) (ad : Nat → Nat) (th : Int32) (n : Nat) (y : Nat → Nat → Int32) : Met l yX4_thrown wsX4_thrown ({ frames := 0, cells := 0, slots := 0, locals := 0 }) (va_Pc [.ref (ad 0)] (mX D cI cA ad th n y)) (qR (some (.int th))) 0 0 nF := by
  refine c_ofR (cc := cX4_thrown) (maxL := 1) (ret := .int) (by decide) rfl rfl (Nat.le_of_ble_eq_true rfl) ?_
  intro p e s m av below meth cd Q hx hb hF hP hK hD hT hret ls hl
  have hown : s.vm.findClass RX4 = some m.cls := hF.2.2.2.1
  have hF : CallFix p m cd cX4_thrown 1 s av wsX4_thrown RX4 := hF
  have hts := hF.2.2.2.2
  have hl : lv_has ls 1 [(0, .ref (ad 0))] := hl
  refine lv_aload_n hx hb dX4_thrown_0 rfl (lv_at hl 0 rfl) ?_
  refine r_get (C := RX4) (T := TX4) (M := 9) (index := 31) (fd := "thrown") (fo := "I") hx hb hts (by decide +kernel) hown hK hP 0 (by decide) mF_0 rfl 0 (by decide) rfl (by decide +kernel) rfl dX4_thrown_1 ?_
  exact hret _ _ _ dX4_thrown_4 (rfl)
set_option maxHeartbeats 4000000 in
set_option maxRecDepth 100000 in
theorem c_X4_cards (l : Launch) (D : va_G) (cI : ClassId) (cA : ClassId) (ad : Nat → Nat) (th : Int32) (n : Nat) (y : Nat → Nat → Int32) : Met l yX4_cards wsX4_cards ({ frames := 0, cells := 0, slots := 0, locals := 0 }) (va_Pc [.ref (ad 0)] (mX D cI cA ad th n y)) (qW D ad (mF cI ad (nI 0) n y) 8 (some (.int (nI n)))) 0 0 (wA ad 8) := by
  refine c_ofW (cc := cX4_cards) (maxL := 1) (ret := .int) (by decide) rfl rfl (Nat.le_of_ble_eq_true rfl) ?_
  intro p e s m av below meth cd Q hx hb hF hP hK hD hT hret ls hl
  have hown : s.vm.findClass RX4 = some m.cls := hF.2.2.2.1
  have hF : CallFix p m cd cX4_cards 1 s av wsX4_cards RX4 := hF
  have hts := hF.2.2.2.2
  have hl : lv_has ls 1 [(0, .ref (ad 0))] := hl
  obtain ⟨H, eH⟩ : ∃ H9 : Heap, H9 = s.heap := ⟨_, rfl⟩
  obtain ⟨locs, eL⟩ : ∃ L9 : List Loc, L9 = [] := ⟨_, rfl⟩
  have hS : sS (wA ad 8) s.heap H locs := by rw [eH, eL]; exact sS.rf
  rw [← eH] at hP
  suffices hgo : W p l e ({ frames := 0, cells := 0, slots := 0, locals := 0 }) s m av below meth cd H locs 0 0 Q (F0 m 0 ls []) by rw [eH, eL] at hgo; exact hgo
  clear eH eL
  refine lv_aload_n hx hb dX4_cards_0 rfl (lv_at hl 0 rfl) ?_
  refine lv_iconst (v := nI 0) hx hb dX4_cards_1 (by decide) ?_
  refine r_put (C := RX4) (T := TX4) (M := 9) (index := 31) (fd := "thrown") (f' := mF cI ad (nI 0) n y) hx hb hts (by decide +kernel) tyX4 tyX4_ok nmX4 hown hK hP hD hS 0 (by decide) mF_0 rfl 0 (by decide) rfl (by decide +kernel) (Nat.le_of_ble_eq_true rfl) mF_th dX4_cards_2 (fun H locs hP hS => ?_)
  refine lv_aload_n hx hb dX4_cards_5 rfl (lv_at hl 0 rfl) ?_
  refine r_get (C := RX4) (T := TX4) (M := 9) (index := 35) (fd := "cards") (fo := "I") hx hb hts (by decide +kernel) hown hK hP 0 (by decide) mF_0 rfl 7 (by decide) rfl (by decide +kernel) rfl dX4_cards_6 ?_
  exact hret _ _ _ _ _ _ hP hS dX4_cards_9 (rfl) (rfl)
set_option maxHeartbeats 4000000 in
set_option maxRecDepth 100000 in
theorem c_X4_changes (l : Launch) (D : va_G) (cI : ClassId) (cA : ClassId) (ad : Nat → Nat) (th : Int32) (n : Nat) (y : Nat → Nat → Int32) (c : Nat) (hc : c < 24) (hn : n ≤ 24) : Met l yX4_changes wsX4_changes ({ frames := 0, cells := 0, slots := 0, locals := 0 }) (va_Pc [.ref (ad 0), .int (nI c)] (mX D cI cA ad th n y)) (qW D ad (mF cI ad th n (chF y c n)) 8 none) 0 0 (wA ad 8) := by
  refine c_ofV (cc := cX4_changes) (maxL := 3) (by decide) rfl (Nat.le_of_ble_eq_true rfl) ?_
  intro p e s m av below meth cd Q hx hb hF hP hK hD hT hret ls hl
  have hown : s.vm.findClass RX4 = some m.cls := hF.2.2.2.1
  have hF : CallFix p m cd cX4_changes 3 s av wsX4_changes RX4 := hF
  have hts := hF.2.2.2.2
  have hl : lv_has ls 3 [(0, .ref (ad 0)), (1, .int (nI c))] := hl
  obtain ⟨H, eH⟩ : ∃ H9 : Heap, H9 = s.heap := ⟨_, rfl⟩
  obtain ⟨locs, eL⟩ : ∃ L9 : List Loc, L9 = [] := ⟨_, rfl⟩
  have hS : sS (wA ad 8) s.heap H locs := by rw [eH, eL]; exact sS.rf
  rw [← eH] at hP
  suffices hgo : W p l e ({ frames := 0, cells := 0, slots := 0, locals := 0 }) s m av below meth cd H locs 0 0 Q (F0 m 0 ls []) by rw [eH, eL] at hgo; exact hgo
  clear eH eL
  refine lv_aload_n hx hb dX4_changes_0 rfl (lv_at hl 0 rfl) ?_
  refine r_get (C := RX4) (T := TX4) (M := 9) (index := 25) (fd := "forNow") (fo := "[I") hx hb hts (by decide +kernel) hown hK hP 0 (by decide) mF_0 rfl 6 (by decide) rfl (by decide +kernel) rfl dX4_changes_1 ?_
  refine lv_iload_n hx hb dX4_changes_4 rfl (lv_at hl 1 rfl) ?_
  refine lv_iconst (v := nI 0) hx hb dX4_changes_5 (by decide) ?_
  refine r_iast (f' := mF cI ad th n (up2 y 6 c (nI 0))) hx hb hK hP hD hS 6 0 (by omega) (mF_a 6 (by omega)) rfl (i := c) (by omega) (by decide) (mF_up (mF_a 6 (by omega)) (by decide)) dX4_changes_6 (fun H locs hP hS => ?_)
  refine lv_iconst (v := nI 0) hx hb dX4_changes_7 (by decide) ?_
  refine lv_istore_n (lv' := [(2, .int (nI 0)), (0, .ref (ad 0)), (1, .int (nI c))]) hx hb dX4_changes_8 rfl hl (by decide) rfl (fun ls hl => ?_)
  have hL9 : ∀ i : Nat, i ≤ n → ∀ (H : Heap) (locs : List Loc), va_P D vwCl (wl ad (mF cI ad th n (chF y c i)) 8) H → sS (wA ad 8) s.heap H locs → ∀ ls : Array Slot, lv_has ls 3 [(0, .ref (ad 0)), (1, .int (nI c)), (2, .int (nI i))] → W p l e ({ frames := 0, cells := 0, slots := 0, locals := 0 }) s m av below meth cd H locs 0 0 Q (F0 m 9 ls []) := by
    refine down (n) ?_ ?_
    · intro H locs hP hS ls hl
      refine lv_iload_n hx hb dX4_changes_9 rfl (lv_at hl 2 rfl) ?_
      refine lv_aload_n hx hb dX4_changes_10 rfl (lv_at hl 0 rfl) ?_
      refine r_get (C := RX4) (T := TX4) (M := 9) (index := 35) (fd := "cards") (fo := "I") hx hb hts (by decide +kernel) hown hK hP 0 (by decide) mF_0 rfl 7 (by decide) rfl (by decide +kernel) rfl dX4_changes_11 ?_
      refine r_cgeN (a := n) (b := n) (tgt := 37) hx hb (by omega) (by omega) dX4_changes_14 (by decide) (fun _ => ?_) (fun h => absurd h (by omega))
      exact hret _ _ _ _ _ hP hS dX4_changes_37 (rfl)
    · intro i hi9 ih9 H locs hP hS ls hl
      refine lv_iload_n hx hb dX4_changes_9 rfl (lv_at hl 2 rfl) ?_
      refine lv_aload_n hx hb dX4_changes_10 rfl (lv_at hl 0 rfl) ?_
      refine r_get (C := RX4) (T := TX4) (M := 9) (index := 35) (fd := "cards") (fo := "I") hx hb hts (by decide +kernel) hown hK hP 0 (by decide) mF_0 rfl 7 (by decide) rfl (by decide +kernel) rfl dX4_changes_11 ?_
      refine r_cgeN (a := i) (b := n) (tgt := 37) hx hb (by omega) (by omega) dX4_changes_14 (by decide) (fun h => absurd h (by omega)) (fun _ => ?_)
      refine lv_aload_n hx hb dX4_changes_17 rfl (lv_at hl 0 rfl) ?_
      refine r_get (C := RX4) (T := TX4) (M := 9) (index := 25) (fd := "forNow") (fo := "[I") hx hb hts (by decide +kernel) hown hK hP 0 (by decide) mF_0 rfl 6 (by decide) rfl (by decide +kernel) rfl dX4_changes_18 ?_
      refine lv_iload_n hx hb dX4_changes_21 rfl (lv_at hl 2 rfl) ?_
      refine lv_dup2_11 hx hb dX4_changes_22 rfl rfl ?_
      refine r_iald hx hb hK hP 6 0 (by omega) (mF_a 6 (by omega)) rfl (i := i) (by omega) (by decide) dX4_changes_23 ?_
      refine lv_iconst (v := nI 1) hx hb dX4_changes_24 (by decide) ?_
      refine lv_iload_n hx hb dX4_changes_25 rfl (lv_at hl 1 rfl) ?_
      refine r_bit hx hb dX4_changes_26 ?_
      refine lv_iconst (v := (-1)) hx hb dX4_changes_27 (by decide) ?_
      refine lv_ixor hx hb dX4_changes_28 ?_
      refine lv_iand hx hb dX4_changes_29 ?_
      refine r_iast (f' := mF cI ad th n (up2 (chF y c i) 6 i (((chF y c i) 6 i) &&& ((bit c) ^^^ ((-1)))))) hx hb hK hP hD hS 6 0 (by omega) (mF_a 6 (by omega)) rfl (i := i) (by omega) (by decide) (mF_up (mF_a 6 (by omega)) (by decide)) dX4_changes_30 (fun H locs hP hS => ?_)
      refine r_iincN (k := 2) (a := i) (d := 1) (r := i + 1) (lv' := [(2, .int (nI (i + 1))), (0, .ref (ad 0)), (1, .int (nI c))]) hx hb dX4_changes_31 hl rfl (by omega) (by decide) rfl (fun ls hl => ?_)
      refine lv_goto (tgt := 9) hx hb dX4_changes_34 (by decide) ?_
      exact ih9 _ _ (by rw [show mF cI ad th n (chF y c (i + 1)) = mF cI ad th n (up2 (chF y c i) 6 i (((chF y c i) 6 i) &&& ((bit c) ^^^ ((-1))))) from rfl]; exact hP) hS _ (lv_sub hl [1, 2, 0] rfl)
  exact hL9 0 (Nat.zero_le _) _ _ (by rw [show mF cI ad th n (chF y c 0) = mF cI ad th n (up2 y 6 c (nI 0)) from rfl]; exact hP) hS _ (lv_sub hl [1, 2, 0] rfl)
set_option maxHeartbeats 4000000 in
set_option maxRecDepth 100000 in
theorem c_X4_sets (l : Launch) (D : va_G) (cI : ClassId) (cA : ClassId) (ad : Nat → Nat) (th : Int32) (n : Nat) (y : Nat → Nat → Int32) (c : Nat) (v : Nat) (k : Nat) (w : Int32) (hc : c < 24) (hv : v < 3) (hk : k < 2) (hn : n ≤ 24) : Met l yX4_sets wsX4_sets ({ frames := 1, cells := 0, slots := 0, locals := 22 }) (va_Pc [.ref (ad 0), .int (nI c), .int (nI v), .int (nI k), .int w] (mX D cI cA ad th n y)) (qW D ad (mF cI ad th n (mputS y n c v k w)) 8 none) 0 0 (wA ad 8) := by
  refine c_ofV (cc := cX4_sets) (maxL := 5) (by decide) rfl (Nat.le_of_ble_eq_true rfl) ?_
  intro p e s m av below meth cd Q hx hb hF hP hK hD hT hret ls hl
  have hown : s.vm.findClass RX4 = some m.cls := hF.2.2.2.1
  have hF : CallFix p m cd cX4_sets 5 s av wsX4_sets RX4 := hF
  have hts := hF.2.2.2.2
  have hl : lv_has ls 5 [(0, .ref (ad 0)), (1, .int (nI c)), (2, .int (nI v)), (3, .int (nI k)), (4, .int w)] := hl
  obtain ⟨H, eH⟩ : ∃ H9 : Heap, H9 = s.heap := ⟨_, rfl⟩
  obtain ⟨locs, eL⟩ : ∃ L9 : List Loc, L9 = [] := ⟨_, rfl⟩
  have hS : sS (wA ad 8) s.heap H locs := by rw [eH, eL]; exact sS.rf
  rw [← eH] at hP
  suffices hgo : W p l e ({ frames := 1, cells := 0, slots := 0, locals := 22 }) s m av below meth cd H locs 0 0 Q (F0 m 0 ls []) by rw [eH, eL] at hgo; exact hgo
  clear eH eL
  refine lv_iload_n hx hb dX4_sets_0 rfl (lv_at hl 2 rfl) ?_
  refine r_ifneN (a := v) (tgt := 25) hx hb (by omega) dX4_sets_1 (by decide) (fun h1_1 => ?_) (fun h1_1 => ?_)
  · refine lv_aload_n hx hb dX4_sets_25 rfl (lv_at hl 0 rfl) ?_
    refine r_get (C := RX4) (T := TX4) (M := 9) (index := 16) (fd := "set") (fo := "[I") hx hb hts (by decide +kernel) hown hK hP 0 (by decide) mF_0 rfl 3 (by decide) rfl (by decide +kernel) rfl dX4_sets_26 ?_
    refine lv_iload_n hx hb dX4_sets_29 rfl (lv_at hl 1 rfl) ?_
    refine lv_iload_n hx hb dX4_sets_30 rfl (lv_at hl 2 rfl) ?_
    refine lv_iload_n hx hb dX4_sets_31 rfl (lv_at hl 3 rfl) ?_
    refine k_Ri (va_runS (As := [.int (nI c), .int (nI v), .int (nI k)]) (rest := [.ref (ad 3)]) hF (c_X4_at l c v k hc hv hk) (va_cwS 3 hts gX4_sets_X4_at rfl rfl rfl (by decide +kernel) ⟨(Nat.le_of_ble_eq_true rfl), (Nat.le_of_ble_eq_true rfl)⟩) k_preS rfl rfl hl.1 rfl (lv_room (Nat.le_of_ble_eq_true rfl)) dX4_sets_32 ⟨Nat.zero_le _, Nat.zero_le _⟩) ?_
    refine lv_iload hx hb dX4_sets_35 (lv_at hl 4 rfl) ?_
    refine r_iast (f' := mF cI ad th n (up2 y 3 (6 * c + 2 * v + k) w)) hx hb hK hP hD hS 3 0 (by omega) mF_3 rfl (i := 6 * c + 2 * v + k) (by omega) (by decide) (mF_up mF_3 (by decide)) dX4_sets_37 (fun H locs hP hS => ?_)
    exact hret _ _ _ _ _ hP hS dX4_sets_38 (by first | rw [mputS_a (by assumption) (by assumption)] | rw [mputS_b (by assumption)] | rw [mputS_c (by assumption)])
  · refine lv_aload_n hx hb dX4_sets_4 rfl (lv_at hl 0 rfl) ?_
    refine r_get (C := RX4) (T := TX4) (M := 9) (index := 16) (fd := "set") (fo := "[I") hx hb hts (by decide +kernel) hown hK hP 0 (by decide) mF_0 rfl 3 (by decide) rfl (by decide +kernel) rfl dX4_sets_5 ?_
    refine lv_iload_n hx hb dX4_sets_8 rfl (lv_at hl 1 rfl) ?_
    refine lv_iload_n hx hb dX4_sets_9 rfl (lv_at hl 2 rfl) ?_
    refine lv_iload_n hx hb dX4_sets_10 rfl (lv_at hl 3 rfl) ?_
    refine k_Ri (va_runS (As := [.int (nI c), .int (nI v), .int (nI k)]) (rest := [.ref (ad 3)]) hF (c_X4_at l c v k hc hv hk) (va_cwS 3 hts gX4_sets_X4_at rfl rfl rfl (by decide +kernel) ⟨(Nat.le_of_ble_eq_true rfl), (Nat.le_of_ble_eq_true rfl)⟩) k_preS rfl rfl hl.1 rfl (lv_room (Nat.le_of_ble_eq_true rfl)) dX4_sets_11 ⟨Nat.zero_le _, Nat.zero_le _⟩) ?_
    refine r_iald hx hb hK hP 3 0 (by omega) mF_3 rfl (i := 6 * c + 2 * v + k) (by omega) (by decide) dX4_sets_14 ?_
    refine lv_iload hx hb dX4_sets_15 (lv_at hl 4 rfl) ?_
    refine lv_icmp_eq (tgt := 25) hx hb dX4_sets_17 (by decide) (fun h17_2 => ?_) (fun h17_2 => ?_)
    · refine lv_aload_n hx hb dX4_sets_25 rfl (lv_at hl 0 rfl) ?_
      refine r_get (C := RX4) (T := TX4) (M := 9) (index := 16) (fd := "set") (fo := "[I") hx hb hts (by decide +kernel) hown hK hP 0 (by decide) mF_0 rfl 3 (by decide) rfl (by decide +kernel) rfl dX4_sets_26 ?_
      refine lv_iload_n hx hb dX4_sets_29 rfl (lv_at hl 1 rfl) ?_
      refine lv_iload_n hx hb dX4_sets_30 rfl (lv_at hl 2 rfl) ?_
      refine lv_iload_n hx hb dX4_sets_31 rfl (lv_at hl 3 rfl) ?_
      refine k_Ri (va_runS (As := [.int (nI c), .int (nI v), .int (nI k)]) (rest := [.ref (ad 3)]) hF (c_X4_at l c v k hc hv hk) (va_cwS 3 hts gX4_sets_X4_at rfl rfl rfl (by decide +kernel) ⟨(Nat.le_of_ble_eq_true rfl), (Nat.le_of_ble_eq_true rfl)⟩) k_preS rfl rfl hl.1 rfl (lv_room (Nat.le_of_ble_eq_true rfl)) dX4_sets_32 ⟨Nat.zero_le _, Nat.zero_le _⟩) ?_
      refine lv_iload hx hb dX4_sets_35 (lv_at hl 4 rfl) ?_
      refine r_iast (f' := mF cI ad th n (up2 y 3 (6 * c + 2 * v + k) w)) hx hb hK hP hD hS 3 0 (by omega) mF_3 rfl (i := 6 * c + 2 * v + k) (by omega) (by decide) (mF_up mF_3 (by decide)) dX4_sets_37 (fun H locs hP hS => ?_)
      exact hret _ _ _ _ _ hP hS dX4_sets_38 (by first | rw [mputS_a (by assumption) (by assumption)] | rw [mputS_b (by assumption)] | rw [mputS_c (by assumption)])
    · refine lv_aload_n hx hb dX4_sets_20 rfl (lv_at hl 0 rfl) ?_
      refine lv_iload_n hx hb dX4_sets_21 rfl (lv_at hl 1 rfl) ?_
      refine k_Wv (va_runV (As := [.int (nI c)]) (rest := []) hF (c_X4_changes l D cI cA ad th n y c hc hn) (cwV 1 hts gX4_sets_X4_changes rfl rfl rfl (by decide +kernel) ⟨(Nat.le_of_ble_eq_true rfl), (Nat.le_of_ble_eq_true rfl)⟩) (k_pre hP hK hD hT (k := 0) (by decide) mF_0 rfl) rfl rfl hl.1 rfl (lv_room (Nat.le_of_ble_eq_true rfl)) dX4_sets_22 ⟨Nat.zero_le _, Nat.zero_le _⟩) hD hS (fun H locs hP hS => ?_)
      refine lv_aload_n hx hb dX4_sets_25 rfl (lv_at hl 0 rfl) ?_
      refine r_get (C := RX4) (T := TX4) (M := 9) (index := 16) (fd := "set") (fo := "[I") hx hb hts (by decide +kernel) hown hK hP 0 (by decide) mF_0 rfl 3 (by decide) rfl (by decide +kernel) rfl dX4_sets_26 ?_
      refine lv_iload_n hx hb dX4_sets_29 rfl (lv_at hl 1 rfl) ?_
      refine lv_iload_n hx hb dX4_sets_30 rfl (lv_at hl 2 rfl) ?_
      refine lv_iload_n hx hb dX4_sets_31 rfl (lv_at hl 3 rfl) ?_
      refine k_Ri (va_runS (As := [.int (nI c), .int (nI v), .int (nI k)]) (rest := [.ref (ad 3)]) hF (c_X4_at l c v k hc hv hk) (va_cwS 3 hts gX4_sets_X4_at rfl rfl rfl (by decide +kernel) ⟨(Nat.le_of_ble_eq_true rfl), (Nat.le_of_ble_eq_true rfl)⟩) k_preS rfl rfl hl.1 rfl (lv_room (Nat.le_of_ble_eq_true rfl)) dX4_sets_32 ⟨Nat.zero_le _, Nat.zero_le _⟩) ?_
      refine lv_iload hx hb dX4_sets_35 (lv_at hl 4 rfl) ?_
      refine r_iast (f' := mF cI ad th n (up2 (chF y c n) 3 (6 * c + 2 * v + k) w)) hx hb hK hP hD hS 3 0 (by omega) mF_3 rfl (i := 6 * c + 2 * v + k) (by omega) (by decide) (mF_up mF_3 (by decide)) dX4_sets_37 (fun H locs hP hS => ?_)
      exact hret _ _ _ _ _ hP hS dX4_sets_38 (by first | rw [mputS_a (by assumption) (by assumption)] | rw [mputS_b (by assumption)] | rw [mputS_c (by assumption)])
set_option maxHeartbeats 4000000 in
set_option maxRecDepth 100000 in
theorem c_X4_names (l : Launch) (D : va_G) (cI : ClassId) (cA : ClassId) (ad : Nat → Nat) (th : Int32) (n : Nat) (y : Nat → Nat → Int32) (c : Nat) (v : Nat) (w : Int32) (hc : c < 24) (hv : v < 3) (hn : n ≤ 24) : Met l yX4_names wsX4_names ({ frames := 1, cells := 0, slots := 0, locals := 22 }) (va_Pc [.ref (ad 0), .int (nI c), .int (nI v), .int w] (mX D cI cA ad th n y)) (qW D ad (mF cI ad th n (mputN y n c v w)) 8 none) 0 0 (wA ad 8) := by
  refine c_ofV (cc := cX4_names) (maxL := 4) (by decide) rfl (Nat.le_of_ble_eq_true rfl) ?_
  intro p e s m av below meth cd Q hx hb hF hP hK hD hT hret ls hl
  have hown : s.vm.findClass RX4 = some m.cls := hF.2.2.2.1
  have hF : CallFix p m cd cX4_names 4 s av wsX4_names RX4 := hF
  have hts := hF.2.2.2.2
  have hl : lv_has ls 4 [(0, .ref (ad 0)), (1, .int (nI c)), (2, .int (nI v)), (3, .int w)] := hl
  obtain ⟨H, eH⟩ : ∃ H9 : Heap, H9 = s.heap := ⟨_, rfl⟩
  obtain ⟨locs, eL⟩ : ∃ L9 : List Loc, L9 = [] := ⟨_, rfl⟩
  have hS : sS (wA ad 8) s.heap H locs := by rw [eH, eL]; exact sS.rf
  rw [← eH] at hP
  suffices hgo : W p l e ({ frames := 1, cells := 0, slots := 0, locals := 22 }) s m av below meth cd H locs 0 0 Q (F0 m 0 ls []) by rw [eH, eL] at hgo; exact hgo
  clear eH eL
  refine lv_iload_n hx hb dX4_names_0 rfl (lv_at hl 2 rfl) ?_
  refine r_ifneN (a := v) (tgt := 23) hx hb (by omega) dX4_names_1 (by decide) (fun h1_1 => ?_) (fun h1_1 => ?_)
  · refine lv_aload_n hx hb dX4_names_23 rfl (lv_at hl 0 rfl) ?_
    refine r_get (C := RX4) (T := TX4) (M := 9) (index := 13) (fd := "name") (fo := "[I") hx hb hts (by decide +kernel) hown hK hP 0 (by decide) mF_0 rfl 2 (by decide) rfl (by decide +kernel) rfl dX4_names_24 ?_
    refine lv_iconst (v := nI 3) hx hb dX4_names_27 (by decide) ?_
    refine lv_iload_n hx hb dX4_names_28 rfl (lv_at hl 1 rfl) ?_
    refine r_mulN (a := 3) (b := c) (r := 3 * c) hx hb dX4_names_29 (by omega) ?_
    refine lv_iload_n hx hb dX4_names_30 rfl (lv_at hl 2 rfl) ?_
    refine r_addN (a := 3 * c) (b := v) (r := 3 * c + v) hx hb dX4_names_31 (by omega) ?_
    refine lv_iload_n hx hb dX4_names_32 rfl (lv_at hl 3 rfl) ?_
    refine r_iast (f' := mF cI ad th n (up2 y 2 (3 * c + v) w)) hx hb hK hP hD hS 2 0 (by omega) mF_2 rfl (i := 3 * c + v) (by omega) (by decide) (mF_up mF_2 (by decide)) dX4_names_33 (fun H locs hP hS => ?_)
    exact hret _ _ _ _ _ hP hS dX4_names_34 (by first | rw [mputN_a (by assumption) (by assumption)] | rw [mputN_b (by assumption)] | rw [mputN_c (by assumption)])
  · refine lv_aload_n hx hb dX4_names_4 rfl (lv_at hl 0 rfl) ?_
    refine r_get (C := RX4) (T := TX4) (M := 9) (index := 13) (fd := "name") (fo := "[I") hx hb hts (by decide +kernel) hown hK hP 0 (by decide) mF_0 rfl 2 (by decide) rfl (by decide +kernel) rfl dX4_names_5 ?_
    refine lv_iconst (v := nI 3) hx hb dX4_names_8 (by decide) ?_
    refine lv_iload_n hx hb dX4_names_9 rfl (lv_at hl 1 rfl) ?_
    refine r_mulN (a := 3) (b := c) (r := 3 * c) hx hb dX4_names_10 (by omega) ?_
    refine lv_iload_n hx hb dX4_names_11 rfl (lv_at hl 2 rfl) ?_
    refine r_addN (a := 3 * c) (b := v) (r := 3 * c + v) hx hb dX4_names_12 (by omega) ?_
    refine r_iald hx hb hK hP 2 0 (by omega) mF_2 rfl (i := 3 * c + v) (by omega) (by decide) dX4_names_13 ?_
    refine lv_iload_n hx hb dX4_names_14 rfl (lv_at hl 3 rfl) ?_
    refine lv_icmp_eq (tgt := 23) hx hb dX4_names_15 (by decide) (fun h15_2 => ?_) (fun h15_2 => ?_)
    · refine lv_aload_n hx hb dX4_names_23 rfl (lv_at hl 0 rfl) ?_
      refine r_get (C := RX4) (T := TX4) (M := 9) (index := 13) (fd := "name") (fo := "[I") hx hb hts (by decide +kernel) hown hK hP 0 (by decide) mF_0 rfl 2 (by decide) rfl (by decide +kernel) rfl dX4_names_24 ?_
      refine lv_iconst (v := nI 3) hx hb dX4_names_27 (by decide) ?_
      refine lv_iload_n hx hb dX4_names_28 rfl (lv_at hl 1 rfl) ?_
      refine r_mulN (a := 3) (b := c) (r := 3 * c) hx hb dX4_names_29 (by omega) ?_
      refine lv_iload_n hx hb dX4_names_30 rfl (lv_at hl 2 rfl) ?_
      refine r_addN (a := 3 * c) (b := v) (r := 3 * c + v) hx hb dX4_names_31 (by omega) ?_
      refine lv_iload_n hx hb dX4_names_32 rfl (lv_at hl 3 rfl) ?_
      refine r_iast (f' := mF cI ad th n (up2 y 2 (3 * c + v) w)) hx hb hK hP hD hS 2 0 (by omega) mF_2 rfl (i := 3 * c + v) (by omega) (by decide) (mF_up mF_2 (by decide)) dX4_names_33 (fun H locs hP hS => ?_)
      exact hret _ _ _ _ _ hP hS dX4_names_34 (by first | rw [mputN_a (by assumption) (by assumption)] | rw [mputN_b (by assumption)] | rw [mputN_c (by assumption)])
    · refine lv_aload_n hx hb dX4_names_18 rfl (lv_at hl 0 rfl) ?_
      refine lv_iload_n hx hb dX4_names_19 rfl (lv_at hl 1 rfl) ?_
      refine k_Wv (va_runV (As := [.int (nI c)]) (rest := []) hF (c_X4_changes l D cI cA ad th n y c hc hn) (cwV 1 hts gX4_names_X4_changes rfl rfl rfl (by decide +kernel) ⟨(Nat.le_of_ble_eq_true rfl), (Nat.le_of_ble_eq_true rfl)⟩) (k_pre hP hK hD hT (k := 0) (by decide) mF_0 rfl) rfl rfl hl.1 rfl (lv_room (Nat.le_of_ble_eq_true rfl)) dX4_names_20 ⟨Nat.zero_le _, Nat.zero_le _⟩) hD hS (fun H locs hP hS => ?_)
      refine lv_aload_n hx hb dX4_names_23 rfl (lv_at hl 0 rfl) ?_
      refine r_get (C := RX4) (T := TX4) (M := 9) (index := 13) (fd := "name") (fo := "[I") hx hb hts (by decide +kernel) hown hK hP 0 (by decide) mF_0 rfl 2 (by decide) rfl (by decide +kernel) rfl dX4_names_24 ?_
      refine lv_iconst (v := nI 3) hx hb dX4_names_27 (by decide) ?_
      refine lv_iload_n hx hb dX4_names_28 rfl (lv_at hl 1 rfl) ?_
      refine r_mulN (a := 3) (b := c) (r := 3 * c) hx hb dX4_names_29 (by omega) ?_
      refine lv_iload_n hx hb dX4_names_30 rfl (lv_at hl 2 rfl) ?_
      refine r_addN (a := 3 * c) (b := v) (r := 3 * c + v) hx hb dX4_names_31 (by omega) ?_
      refine lv_iload_n hx hb dX4_names_32 rfl (lv_at hl 3 rfl) ?_
      refine r_iast (f' := mF cI ad th n (up2 (chF y c n) 2 (3 * c + v) w)) hx hb hK hP hD hS 2 0 (by omega) mF_2 rfl (i := 3 * c + v) (by omega) (by decide) (mF_up mF_2 (by decide)) dX4_names_33 (fun H locs hP hS => ?_)
      exact hret _ _ _ _ _ hP hS dX4_names_34 (by first | rw [mputN_a (by assumption) (by assumption)] | rw [mputN_b (by assumption)] | rw [mputN_c (by assumption)])
set_option maxHeartbeats 4000000 in
set_option maxRecDepth 100000 in
theorem c_X4_mergedOf (l : Launch) (D : va_G) (cI : ClassId) (cA : ClassId) (ad : Nat → Nat) (th : Int32) (n : Nat) (y : Nat → Nat → Int32) (c : Nat) (k : Nat) (hc : c < 24) (hk : k < 2) : Met l yX4_mergedOf wsX4_mergedOf ({ frames := 1, cells := 0, slots := 0, locals := 22 }) (va_Pc [.ref (ad 0), .int (nI c), .int (nI k)] (mX D cI cA ad th n y)) (qR (some (.int (mSt y c k)))) 0 0 nF := by
  refine c_ofR (cc := cX4_mergedOf) (maxL := 5) (ret := .int) (by decide) rfl rfl (Nat.le_of_ble_eq_true rfl) ?_
  intro p e s m av below meth cd Q hx hb hF hP hK hD hT hret ls hl
  have hown : s.vm.findClass RX4 = some m.cls := hF.2.2.2.1
  have hF : CallFix p m cd cX4_mergedOf 5 s av wsX4_mergedOf RX4 := hF
  have hts := hF.2.2.2.2
  have hl : lv_has ls 5 [(0, .ref (ad 0)), (1, .int (nI c)), (2, .int (nI k))] := hl
  refine lv_aload_n hx hb dX4_mergedOf_0 rfl (lv_at hl 0 rfl) ?_
  refine r_get (C := RX4) (T := TX4) (M := 9) (index := 16) (fd := "set") (fo := "[I") hx hb hts (by decide +kernel) hown hK hP 0 (by decide) mF_0 rfl 3 (by decide) rfl (by decide +kernel) rfl dX4_mergedOf_1 ?_
  refine lv_iload_n hx hb dX4_mergedOf_4 rfl (lv_at hl 1 rfl) ?_
  refine lv_iconst (v := nI 0) hx hb dX4_mergedOf_5 (by decide) ?_
  refine lv_iload_n hx hb dX4_mergedOf_6 rfl (lv_at hl 2 rfl) ?_
  refine k_Ri (va_runS (As := [.int (nI c), .int (nI 0), .int (nI k)]) (rest := [.ref (ad 3)]) hF (c_X4_at l c 0 k hc (by omega) hk) (va_cwS 3 hts gX4_mergedOf_X4_at rfl rfl rfl (by decide +kernel) ⟨(Nat.le_of_ble_eq_true rfl), (Nat.le_of_ble_eq_true rfl)⟩) k_preS rfl rfl hl.1 rfl (lv_room (Nat.le_of_ble_eq_true rfl)) dX4_mergedOf_7 ⟨Nat.zero_le _, Nat.zero_le _⟩) ?_
  refine r_topi (show (nI (6 * c + 2 * 0 + k) : Int32) = nI (6 * c + k) from congrArg nI (by omega)) ?_
  refine r_iald hx hb hK hP 3 0 (by omega) mF_3 rfl (i := 6 * c + k) (by omega) (by decide) dX4_mergedOf_10 ?_
  refine lv_istore_n (lv' := [(3, .int (y 3 (6 * c + k))), (0, .ref (ad 0)), (1, .int (nI c)), (2, .int (nI k))]) hx hb dX4_mergedOf_11 rfl hl (by decide) rfl (fun ls hl => ?_)
  refine lv_aload_n hx hb dX4_mergedOf_12 rfl (lv_at hl 1 rfl) ?_
  refine r_get (C := RX4) (T := TX4) (M := 9) (index := 16) (fd := "set") (fo := "[I") hx hb hts (by decide +kernel) hown hK hP 0 (by decide) mF_0 rfl 3 (by decide) rfl (by decide +kernel) rfl dX4_mergedOf_13 ?_
  refine lv_iload_n hx hb dX4_mergedOf_16 rfl (lv_at hl 2 rfl) ?_
  refine lv_iconst (v := nI 1) hx hb dX4_mergedOf_17 (by decide) ?_
  refine lv_iload_n hx hb dX4_mergedOf_18 rfl (lv_at hl 3 rfl) ?_
  refine k_Ri (va_runS (As := [.int (nI c), .int (nI 1), .int (nI k)]) (rest := [.ref (ad 3)]) hF (c_X4_at l c 1 k hc (by omega) hk) (va_cwS 3 hts gX4_mergedOf_X4_at rfl rfl rfl (by decide +kernel) ⟨(Nat.le_of_ble_eq_true rfl), (Nat.le_of_ble_eq_true rfl)⟩) k_preS rfl rfl hl.1 rfl (lv_room (Nat.le_of_ble_eq_true rfl)) dX4_mergedOf_19 ⟨Nat.zero_le _, Nat.zero_le _⟩) ?_
  refine r_topi (show (nI (6 * c + 2 * 1 + k) : Int32) = nI (6 * c + k + 2) from congrArg nI (by omega)) ?_
  refine r_iald hx hb hK hP 3 0 (by omega) mF_3 rfl (i := 6 * c + k + 2) (by omega) (by decide) dX4_mergedOf_22 ?_
  refine lv_istore (lv' := [(4, .int (y 3 (6 * c + k + 2))), (3, .int (y 3 (6 * c + k))), (0, .ref (ad 0)), (1, .int (nI c)), (2, .int (nI k))]) hx hb dX4_mergedOf_23 hl (by decide) rfl (fun ls hl => ?_)
  refine lv_iload_n hx hb dX4_mergedOf_25 rfl (lv_at hl 1 rfl) ?_
  refine lv_iload hx hb dX4_mergedOf_26 (lv_at hl 0 rfl) ?_
  refine lv_iand hx hb dX4_mergedOf_28 ?_
  refine lv_iload_n hx hb dX4_mergedOf_29 rfl (lv_at hl 1 rfl) ?_
  refine lv_iload hx hb dX4_mergedOf_30 (lv_at hl 0 rfl) ?_
  refine lv_ixor hx hb dX4_mergedOf_32 ?_
  refine lv_aload_n hx hb dX4_mergedOf_33 rfl (lv_at hl 2 rfl) ?_
  refine r_get (C := RX4) (T := TX4) (M := 9) (index := 16) (fd := "set") (fo := "[I") hx hb hts (by decide +kernel) hown hK hP 0 (by decide) mF_0 rfl 3 (by decide) rfl (by decide +kernel) rfl dX4_mergedOf_34 ?_
  refine lv_iload_n hx hb dX4_mergedOf_37 rfl (lv_at hl 3 rfl) ?_
  refine lv_iconst (v := nI 2) hx hb dX4_mergedOf_38 (by decide) ?_
  refine lv_iload_n hx hb dX4_mergedOf_39 rfl (lv_at hl 4 rfl) ?_
  refine k_Ri (va_runS (As := [.int (nI c), .int (nI 2), .int (nI k)]) (rest := [.ref (ad 3), .int ((y 3 (6 * c + k)) ^^^ (y 3 (6 * c + k + 2))), .int ((y 3 (6 * c + k)) &&& (y 3 (6 * c + k + 2)))]) hF (c_X4_at l c 2 k hc (by omega) hk) (va_cwS 3 hts gX4_mergedOf_X4_at rfl rfl rfl (by decide +kernel) ⟨(Nat.le_of_ble_eq_true rfl), (Nat.le_of_ble_eq_true rfl)⟩) k_preS rfl rfl hl.1 rfl (lv_room (Nat.le_of_ble_eq_true rfl)) dX4_mergedOf_40 ⟨Nat.zero_le _, Nat.zero_le _⟩) ?_
  refine r_topi (show (nI (6 * c + 2 * 2 + k) : Int32) = nI (6 * c + k + 4) from congrArg nI (by omega)) ?_
  refine r_iald hx hb hK hP 3 0 (by omega) mF_3 rfl (i := 6 * c + k + 4) (by omega) (by decide) dX4_mergedOf_43 ?_
  refine lv_iconst (v := (-1)) hx hb dX4_mergedOf_44 (by decide) ?_
  refine lv_ixor hx hb dX4_mergedOf_45 ?_
  refine lv_iand hx hb dX4_mergedOf_46 ?_
  refine lv_ior hx hb dX4_mergedOf_47 ?_
  exact hret _ _ _ dX4_mergedOf_48 (rfl)
set_option maxHeartbeats 4000000 in
set_option maxRecDepth 100000 in
theorem c_X4_mergedName (l : Launch) (D : va_G) (cI : ClassId) (cA : ClassId) (ad : Nat → Nat) (th : Int32) (n : Nat) (y : Nat → Nat → Int32) (c : Nat) (hc : c < 24) : Met l yX4_mergedName wsX4_mergedName ({ frames := 0, cells := 0, slots := 0, locals := 0 }) (va_Pc [.ref (ad 0), .int (nI c)] (mX D cI cA ad th n y)) (qR (some (.int (mNm y c)))) 0 0 nF := by
  refine c_ofR (cc := cX4_mergedName) (maxL := 3) (ret := .int) (by decide) rfl rfl (Nat.le_of_ble_eq_true rfl) ?_
  intro p e s m av below meth cd Q hx hb hF hP hK hD hT hret ls hl
  have hown : s.vm.findClass RX4 = some m.cls := hF.2.2.2.1
  have hF : CallFix p m cd cX4_mergedName 3 s av wsX4_mergedName RX4 := hF
  have hts := hF.2.2.2.2
  have hl : lv_has ls 3 [(0, .ref (ad 0)), (1, .int (nI c))] := hl
  refine lv_aload_n hx hb dX4_mergedName_0 rfl (lv_at hl 0 rfl) ?_
  refine r_get (C := RX4) (T := TX4) (M := 9) (index := 13) (fd := "name") (fo := "[I") hx hb hts (by decide +kernel) hown hK hP 0 (by decide) mF_0 rfl 2 (by decide) rfl (by decide +kernel) rfl dX4_mergedName_1 ?_
  refine lv_iconst (v := nI 3) hx hb dX4_mergedName_4 (by decide) ?_
  refine lv_iload_n hx hb dX4_mergedName_5 rfl (lv_at hl 1 rfl) ?_
  refine r_mulN (a := 3) (b := c) (r := 3 * c) hx hb dX4_mergedName_6 (by omega) ?_
  refine lv_iconst (v := nI 0) hx hb dX4_mergedName_7 (by decide) ?_
  refine r_addN (a := 3 * c) (b := 0) (r := 3 * c) hx hb dX4_mergedName_8 (by omega) ?_
  refine r_iald hx hb hK hP 2 0 (by omega) mF_2 rfl (i := 3 * c) (by omega) (by decide) dX4_mergedName_9 ?_
  refine lv_istore_n (lv' := [(2, .int (y 2 (3 * c))), (0, .ref (ad 0)), (1, .int (nI c))]) hx hb dX4_mergedName_10 rfl hl (by decide) rfl (fun ls hl => ?_)
  refine lv_iload_n hx hb dX4_mergedName_11 rfl (lv_at hl 0 rfl) ?_
  refine lv_aload_n hx hb dX4_mergedName_12 rfl (lv_at hl 1 rfl) ?_
  refine r_get (C := RX4) (T := TX4) (M := 9) (index := 13) (fd := "name") (fo := "[I") hx hb hts (by decide +kernel) hown hK hP 0 (by decide) mF_0 rfl 2 (by decide) rfl (by decide +kernel) rfl dX4_mergedName_13 ?_
  refine lv_iconst (v := nI 3) hx hb dX4_mergedName_16 (by decide) ?_
  refine lv_iload_n hx hb dX4_mergedName_17 rfl (lv_at hl 2 rfl) ?_
  refine r_mulN (a := 3) (b := c) (r := 3 * c) hx hb dX4_mergedName_18 (by omega) ?_
  refine lv_iconst (v := nI 2) hx hb dX4_mergedName_19 (by decide) ?_
  refine r_addN (a := 3 * c) (b := 2) (r := 3 * c + 2) hx hb dX4_mergedName_20 (by omega) ?_
  refine r_iald hx hb hK hP 2 0 (by omega) mF_2 rfl (i := 3 * c + 2) (by omega) (by decide) dX4_mergedName_21 ?_
  refine lv_icmp_ne (tgt := 38) hx hb dX4_mergedName_22 (by decide) (fun h22_1 => ?_) (fun h22_1 => ?_)
  · refine lv_iload_n hx hb dX4_mergedName_38 rfl (lv_at hl 0 rfl) ?_
    exact hret _ _ _ dX4_mergedName_39 (by simp [mNm, mrgN, h22_1])
  · refine lv_aload_n hx hb dX4_mergedName_25 rfl (lv_at hl 1 rfl) ?_
    refine r_get (C := RX4) (T := TX4) (M := 9) (index := 13) (fd := "name") (fo := "[I") hx hb hts (by decide +kernel) hown hK hP 0 (by decide) mF_0 rfl 2 (by decide) rfl (by decide +kernel) rfl dX4_mergedName_26 ?_
    refine lv_iconst (v := nI 3) hx hb dX4_mergedName_29 (by decide) ?_
    refine lv_iload_n hx hb dX4_mergedName_30 rfl (lv_at hl 2 rfl) ?_
    refine r_mulN (a := 3) (b := c) (r := 3 * c) hx hb dX4_mergedName_31 (by omega) ?_
    refine lv_iconst (v := nI 1) hx hb dX4_mergedName_32 (by decide) ?_
    refine r_addN (a := 3 * c) (b := 1) (r := 3 * c + 1) hx hb dX4_mergedName_33 (by omega) ?_
    refine r_iald hx hb hK hP 2 0 (by omega) mF_2 rfl (i := 3 * c + 1) (by omega) (by decide) dX4_mergedName_34 ?_
    refine lv_goto (tgt := 39) hx hb dX4_mergedName_35 (by decide) ?_
    exact hret _ _ _ dX4_mergedName_39 (by simp [mNm, mrgN, h22_1])
set_option maxHeartbeats 4000000 in
set_option maxRecDepth 100000 in
theorem c_X4_clashes (l : Launch) (D : va_G) (cI : ClassId) (cA : ClassId) (ad : Nat → Nat) (th : Int32) (n : Nat) (y : Nat → Nat → Int32) (c : Nat) (hc : c < 24) : Met l yX4_clashes wsX4_clashes ({ frames := 0, cells := 0, slots := 0, locals := 0 }) (va_Pc [.ref (ad 0), .int (nI c)] (mX D cI cA ad th n y)) (qR (some (.int (bI (mcl y c))))) 0 0 nF := by
  refine c_ofR (cc := cX4_clashes) (maxL := 5) (ret := .boolean) (by decide) rfl (nar_bI _) (Nat.le_of_ble_eq_true rfl) ?_
  intro p e s m av below meth cd Q hx hb hF hP hK hD hT hret ls hl
  have hown : s.vm.findClass RX4 = some m.cls := hF.2.2.2.1
  have hF : CallFix p m cd cX4_clashes 5 s av wsX4_clashes RX4 := hF
  have hts := hF.2.2.2.2
  have hl : lv_has ls 5 [(0, .ref (ad 0)), (1, .int (nI c))] := hl
  refine lv_aload_n hx hb dX4_clashes_0 rfl (lv_at hl 0 rfl) ?_
  refine r_get (C := RX4) (T := TX4) (M := 9) (index := 13) (fd := "name") (fo := "[I") hx hb hts (by decide +kernel) hown hK hP 0 (by decide) mF_0 rfl 2 (by decide) rfl (by decide +kernel) rfl dX4_clashes_1 ?_
  refine lv_iconst (v := nI 3) hx hb dX4_clashes_4 (by decide) ?_
  refine lv_iload_n hx hb dX4_clashes_5 rfl (lv_at hl 1 rfl) ?_
  refine r_mulN (a := 3) (b := c) (r := 3 * c) hx hb dX4_clashes_6 (by omega) ?_
  refine lv_iconst (v := nI 0) hx hb dX4_clashes_7 (by decide) ?_
  refine r_addN (a := 3 * c) (b := 0) (r := 3 * c) hx hb dX4_clashes_8 (by omega) ?_
  refine r_iald hx hb hK hP 2 0 (by omega) mF_2 rfl (i := 3 * c) (by omega) (by decide) dX4_clashes_9 ?_
  refine lv_istore_n (lv' := [(2, .int (y 2 (3 * c))), (0, .ref (ad 0)), (1, .int (nI c))]) hx hb dX4_clashes_10 rfl hl (by decide) rfl (fun ls hl => ?_)
  refine lv_aload_n hx hb dX4_clashes_11 rfl (lv_at hl 1 rfl) ?_
  refine r_get (C := RX4) (T := TX4) (M := 9) (index := 13) (fd := "name") (fo := "[I") hx hb hts (by decide +kernel) hown hK hP 0 (by decide) mF_0 rfl 2 (by decide) rfl (by decide +kernel) rfl dX4_clashes_12 ?_
  refine lv_iconst (v := nI 3) hx hb dX4_clashes_15 (by decide) ?_
  refine lv_iload_n hx hb dX4_clashes_16 rfl (lv_at hl 2 rfl) ?_
  refine r_mulN (a := 3) (b := c) (r := 3 * c) hx hb dX4_clashes_17 (by omega) ?_
  refine lv_iconst (v := nI 1) hx hb dX4_clashes_18 (by decide) ?_
  refine r_addN (a := 3 * c) (b := 1) (r := 3 * c + 1) hx hb dX4_clashes_19 (by omega) ?_
  refine r_iald hx hb hK hP 2 0 (by omega) mF_2 rfl (i := 3 * c + 1) (by omega) (by decide) dX4_clashes_20 ?_
  refine lv_istore_n (lv' := [(3, .int (y 2 (3 * c + 1))), (2, .int (y 2 (3 * c))), (0, .ref (ad 0)), (1, .int (nI c))]) hx hb dX4_clashes_21 rfl hl (by decide) rfl (fun ls hl => ?_)
  refine lv_aload_n hx hb dX4_clashes_22 rfl (lv_at hl 2 rfl) ?_
  refine r_get (C := RX4) (T := TX4) (M := 9) (index := 13) (fd := "name") (fo := "[I") hx hb hts (by decide +kernel) hown hK hP 0 (by decide) mF_0 rfl 2 (by decide) rfl (by decide +kernel) rfl dX4_clashes_23 ?_
  refine lv_iconst (v := nI 3) hx hb dX4_clashes_26 (by decide) ?_
  refine lv_iload_n hx hb dX4_clashes_27 rfl (lv_at hl 3 rfl) ?_
  refine r_mulN (a := 3) (b := c) (r := 3 * c) hx hb dX4_clashes_28 (by omega) ?_
  refine lv_iconst (v := nI 2) hx hb dX4_clashes_29 (by decide) ?_
  refine r_addN (a := 3 * c) (b := 2) (r := 3 * c + 2) hx hb dX4_clashes_30 (by omega) ?_
  refine r_iald hx hb hK hP 2 0 (by omega) mF_2 rfl (i := 3 * c + 2) (by omega) (by decide) dX4_clashes_31 ?_
  refine lv_istore (lv' := [(4, .int (y 2 (3 * c + 2))), (3, .int (y 2 (3 * c + 1))), (2, .int (y 2 (3 * c))), (0, .ref (ad 0)), (1, .int (nI c))]) hx hb dX4_clashes_32 hl (by decide) rfl (fun ls hl => ?_)
  refine lv_iload_n hx hb dX4_clashes_34 rfl (lv_at hl 2 rfl) ?_
  refine lv_iload_n hx hb dX4_clashes_35 rfl (lv_at hl 1 rfl) ?_
  refine lv_icmp_eq (tgt := 55) hx hb dX4_clashes_36 (by decide) (fun h36_1 => ?_) (fun h36_1 => ?_)
  · refine lv_iconst (v := nI 0) hx hb dX4_clashes_55 (by decide) ?_
    exact hret _ _ _ dX4_clashes_56 (by simp [mcl, clB, bI, h36_1])
  · refine lv_iload_n hx hb dX4_clashes_39 rfl (lv_at hl 2 rfl) ?_
    refine lv_iload hx hb dX4_clashes_40 (lv_at hl 0 rfl) ?_
    refine lv_icmp_eq (tgt := 55) hx hb dX4_clashes_42 (by decide) (fun h42_2 => ?_) (fun h42_2 => ?_)
    · refine lv_iconst (v := nI 0) hx hb dX4_clashes_55 (by decide) ?_
      exact hret _ _ _ dX4_clashes_56 (by simp [mcl, clB, bI, h36_1, h42_2])
    · refine lv_iload_n hx hb dX4_clashes_45 rfl (lv_at hl 1 rfl) ?_
      refine lv_iload hx hb dX4_clashes_46 (lv_at hl 0 rfl) ?_
      refine lv_icmp_eq (tgt := 55) hx hb dX4_clashes_48 (by decide) (fun h48_3 => ?_) (fun h48_3 => ?_)
      · refine lv_iconst (v := nI 0) hx hb dX4_clashes_55 (by decide) ?_
        exact hret _ _ _ dX4_clashes_56 (by simp [mcl, clB, bI, h36_1, h42_2, h48_3])
      · refine lv_iconst (v := nI 1) hx hb dX4_clashes_51 (by decide) ?_
        refine lv_goto (tgt := 56) hx hb dX4_clashes_52 (by decide) ?_
        exact hret _ _ _ dX4_clashes_56 (by simp [mcl, clB, bI, h36_1, h42_2, h48_3])
end
section
set_option maxHeartbeats 4000000 in
set_option maxRecDepth 100000 in
theorem m_add_0 (l : Launch) (D : va_G) (cI : ClassId) (cA : ClassId) (ad : Nat → Nat) (th : Int32) (n : Nat) (y : Nat → Nat → Int32) (b : Int32) (w : Int32) (hbk : bookB b = true) (hnm : nameB w = true) (hn : n < 24) : Met l yX4_add wsX4_add ({ frames := 2, cells := 0, slots := 0, locals := 42 }) (va_Pc [.ref (ad 0), .int b, .int w] (mX D cI cA ad th n y)) (qW D ad (mF cI ad (nI 0) (n + 1) (mappE y n b w)) 8 (some (.int (nI n)))) 0 0 (wA ad 8) := by
  refine c_ofW (cc := cX4_add) (maxL := 4) (ret := .int) (by decide) rfl rfl (Nat.le_of_ble_eq_true rfl) ?_
  intro p e s m av below meth cd Q hx hb hF hP hK hD hT hret ls hl
  have hown : s.vm.findClass RX4 = some m.cls := hF.2.2.2.1
  have hF : CallFix p m cd cX4_add 4 s av wsX4_add RX4 := hF
  have hts := hF.2.2.2.2
  have hl : lv_has ls 4 [(0, .ref (ad 0)), (1, .int b), (2, .int w)] := hl
  obtain ⟨H, eH⟩ : ∃ H9 : Heap, H9 = s.heap := ⟨_, rfl⟩
  obtain ⟨locs, eL⟩ : ∃ L9 : List Loc, L9 = [] := ⟨_, rfl⟩
  have hS : sS (wA ad 8) s.heap H locs := by rw [eH, eL]; exact sS.rf
  rw [← eH] at hP
  suffices hgo : W p l e ({ frames := 2, cells := 0, slots := 0, locals := 42 }) s m av below meth cd H locs 0 0 Q (F0 m 0 ls []) by rw [eH, eL] at hgo; exact hgo
  clear eH eL
  refine lv_aload_n hx hb dX4_add_0 rfl (lv_at hl 0 rfl) ?_
  refine lv_iload_n hx hb dX4_add_1 rfl (lv_at hl 1 rfl) ?_
  refine k_Ri (va_runS (As := [.int b]) (rest := [.ref (ad 0)]) hF (c_X4_isBook l b) (va_cwS 1 hts gX4_add_X4_isBook rfl rfl rfl (by decide +kernel) ⟨(Nat.le_of_ble_eq_true rfl), (Nat.le_of_ble_eq_true rfl)⟩) k_preS rfl rfl hl.1 rfl (lv_room (Nat.le_of_ble_eq_true rfl)) dX4_add_2 ⟨Nat.zero_le _, Nat.zero_le _⟩) ?_
  refine r_topi (show bI (bookB b) = bI true from congrArg bI (hbk)) ?_
  refine r_ifneB (b := true) (tgt := 12) hx hb dX4_add_5 (by decide) (fun _ => ?_) (fun h => absurd h (by decide))
  refine lv_iload_n hx hb dX4_add_12 rfl (lv_at hl 2 rfl) ?_
  refine lv_iconst (v := nI 0) hx hb dX4_add_13 (by decide) ?_
  refine lv_bipush (v := nI 31) hx hb dX4_add_14 (by decide) ?_
  refine k_Ri (va_runS (As := [.int w, .int (nI 0), .int (nI 31)]) (rest := [.ref (ad 0)]) hF (c_X4_isIn l w (nI 0) (nI 31)) (va_cwS 3 hts gX4_add_X4_isIn rfl rfl rfl (by decide +kernel) ⟨(Nat.le_of_ble_eq_true rfl), (Nat.le_of_ble_eq_true rfl)⟩) k_preS rfl rfl hl.1 rfl (lv_room (Nat.le_of_ble_eq_true rfl)) dX4_add_16 ⟨Nat.zero_le _, Nat.zero_le _⟩) ?_
  refine r_topi (show bI (inB w (nI 0) (nI 31)) = bI true from congrArg bI (inB_name.trans hnm)) ?_
  refine r_ifneB (b := true) (tgt := 26) hx hb dX4_add_19 (by decide) (fun _ => ?_) (fun h => absurd h (by decide))
  refine lv_aload_n hx hb dX4_add_26 rfl (lv_at hl 0 rfl) ?_
  refine r_get (C := RX4) (T := TX4) (M := 9) (index := 35) (fd := "cards") (fo := "I") hx hb hts (by decide +kernel) hown hK hP 0 (by decide) mF_0 rfl 7 (by decide) rfl (by decide +kernel) rfl dX4_add_27 ?_
  refine lv_bipush (v := nI 24) hx hb dX4_add_30 (by decide) ?_
  refine r_cneN (a := n) (b := 24) (tgt := 39) hx hb (by omega) (by omega) dX4_add_32 (by decide) (fun _ => ?_) (fun h => absurd h (by omega))
  refine lv_iconst (v := nI 0) hx hb dX4_add_39 (by decide) ?_
  refine k_Wi (va_runV (As := [.int (nI 0)]) (rest := []) hF (c_X4_isFine_0 l D cI cA ad th n y) (cwV 1 hts gX4_add_X4_isFine rfl rfl rfl (by decide +kernel) ⟨(Nat.le_of_ble_eq_true rfl), (Nat.le_of_ble_eq_true rfl)⟩) (k_pre hP hK hD hT (k := 0) (by decide) mF_0 rfl) rfl rfl hl.1 rfl (lv_room (Nat.le_of_ble_eq_true rfl)) dX4_add_40 ⟨Nat.zero_le _, Nat.zero_le _⟩) hD hS (fun H locs hP hS => ?_)
  refine r_ifneB (b := true) (tgt := 48) hx hb dX4_add_43 (by decide) (fun _ => ?_) (fun h => absurd h (by decide))
  refine lv_aload_n hx hb dX4_add_48 rfl (lv_at hl 0 rfl) ?_
  refine r_get (C := RX4) (T := TX4) (M := 9) (index := 7) (fd := "book") (fo := "[I") hx hb hts (by decide +kernel) hown hK hP 0 (by decide) mF_0 rfl 1 (by decide) rfl (by decide +kernel) rfl dX4_add_49 ?_
  refine lv_aload_n hx hb dX4_add_52 rfl (lv_at hl 0 rfl) ?_
  refine r_get (C := RX4) (T := TX4) (M := 9) (index := 35) (fd := "cards") (fo := "I") hx hb hts (by decide +kernel) hown hK hP 0 (by decide) mF_0 rfl 7 (by decide) rfl (by decide +kernel) rfl dX4_add_53 ?_
  refine lv_iload_n hx hb dX4_add_56 rfl (lv_at hl 1 rfl) ?_
  refine r_iast (f' := mF cI ad (nI 0) n (up2 y 1 n b)) hx hb hK hP hD hS 1 0 (by omega) (mF_a 1 (by omega)) rfl (i := n) (by omega) (by decide) (mF_up (mF_a 1 (by omega)) (by decide)) dX4_add_57 (fun H locs hP hS => ?_)
  refine lv_iconst (v := nI 0) hx hb dX4_add_58 (by decide) ?_
  refine lv_istore_n (lv' := [(3, .int (nI 0)), (0, .ref (ad 0)), (1, .int b), (2, .int w)]) hx hb dX4_add_59 rfl hl (by decide) rfl (fun ls hl => ?_)
  refine lv_iload_n hx hb dX4_add_60 rfl (lv_at hl 0 rfl) ?_
  refine lv_iconst (v := nI 3) hx hb dX4_add_61 (by decide) ?_
  refine r_cgeN (a := 0) (b := 3) (tgt := 85) hx hb (by omega) (by omega) dX4_add_62 (by decide) (fun h => absurd h (by omega)) (fun _ => ?_)
  refine lv_aload_n hx hb dX4_add_65 rfl (lv_at hl 1 rfl) ?_
  refine r_get (C := RX4) (T := TX4) (M := 9) (index := 13) (fd := "name") (fo := "[I") hx hb hts (by decide +kernel) hown hK hP 0 (by decide) mF_0 rfl 2 (by decide) rfl (by decide +kernel) rfl dX4_add_66 ?_
  refine lv_iconst (v := nI 3) hx hb dX4_add_69 (by decide) ?_
  refine lv_aload_n hx hb dX4_add_70 rfl (lv_at hl 1 rfl) ?_
  refine r_get (C := RX4) (T := TX4) (M := 9) (index := 35) (fd := "cards") (fo := "I") hx hb hts (by decide +kernel) hown hK hP 0 (by decide) mF_0 rfl 7 (by decide) rfl (by decide +kernel) rfl dX4_add_71 ?_
  refine r_mulN (a := 3) (b := n) (r := 3 * n) hx hb dX4_add_74 (by omega) ?_
  refine lv_iload_n hx hb dX4_add_75 rfl (lv_at hl 0 rfl) ?_
  refine r_addN (a := 3 * n) (b := 0) (r := 3 * n) hx hb dX4_add_76 (by omega) ?_
  refine lv_iload_n hx hb dX4_add_77 rfl (lv_at hl 3 rfl) ?_
  refine r_iast (f' := mF cI ad (nI 0) n (up2 (up2 y 1 n b) 2 (3 * n) w)) hx hb hK hP hD hS 2 0 (by omega) mF_2 rfl (i := 3 * n) (by omega) (by decide) (mF_up mF_2 (by decide)) dX4_add_78 (fun H locs hP hS => ?_)
  refine r_iincN (k := 0) (a := 0) (d := 1) (r := 1) (lv' := [(3, .int (nI 1)), (0, .ref (ad 0)), (1, .int b), (2, .int w)]) hx hb dX4_add_79 hl rfl (by omega) (by decide) rfl (fun ls hl => ?_)
  refine lv_goto (tgt := 60) hx hb dX4_add_82 (by decide) ?_
  refine lv_iload_n hx hb dX4_add_60 rfl (lv_at hl 0 rfl) ?_
  refine lv_iconst (v := nI 3) hx hb dX4_add_61 (by decide) ?_
  refine r_cgeN (a := 1) (b := 3) (tgt := 85) hx hb (by omega) (by omega) dX4_add_62 (by decide) (fun h => absurd h (by omega)) (fun _ => ?_)
  refine lv_aload_n hx hb dX4_add_65 rfl (lv_at hl 1 rfl) ?_
  refine r_get (C := RX4) (T := TX4) (M := 9) (index := 13) (fd := "name") (fo := "[I") hx hb hts (by decide +kernel) hown hK hP 0 (by decide) mF_0 rfl 2 (by decide) rfl (by decide +kernel) rfl dX4_add_66 ?_
  refine lv_iconst (v := nI 3) hx hb dX4_add_69 (by decide) ?_
  refine lv_aload_n hx hb dX4_add_70 rfl (lv_at hl 1 rfl) ?_
  refine r_get (C := RX4) (T := TX4) (M := 9) (index := 35) (fd := "cards") (fo := "I") hx hb hts (by decide +kernel) hown hK hP 0 (by decide) mF_0 rfl 7 (by decide) rfl (by decide +kernel) rfl dX4_add_71 ?_
  refine r_mulN (a := 3) (b := n) (r := 3 * n) hx hb dX4_add_74 (by omega) ?_
  refine lv_iload_n hx hb dX4_add_75 rfl (lv_at hl 0 rfl) ?_
  refine r_addN (a := 3 * n) (b := 1) (r := 3 * n + 1) hx hb dX4_add_76 (by omega) ?_
  refine lv_iload_n hx hb dX4_add_77 rfl (lv_at hl 3 rfl) ?_
  refine r_iast (f' := mF cI ad (nI 0) n (up2 (up2 (up2 y 1 n b) 2 (3 * n) w) 2 (3 * n + 1) w)) hx hb hK hP hD hS 2 0 (by omega) mF_2 rfl (i := 3 * n + 1) (by omega) (by decide) (mF_up mF_2 (by decide)) dX4_add_78 (fun H locs hP hS => ?_)
  refine r_iincN (k := 0) (a := 1) (d := 1) (r := 2) (lv' := [(3, .int (nI 2)), (0, .ref (ad 0)), (1, .int b), (2, .int w)]) hx hb dX4_add_79 hl rfl (by omega) (by decide) rfl (fun ls hl => ?_)
  refine lv_goto (tgt := 60) hx hb dX4_add_82 (by decide) ?_
  refine lv_iload_n hx hb dX4_add_60 rfl (lv_at hl 0 rfl) ?_
  refine lv_iconst (v := nI 3) hx hb dX4_add_61 (by decide) ?_
  refine r_cgeN (a := 2) (b := 3) (tgt := 85) hx hb (by omega) (by omega) dX4_add_62 (by decide) (fun h => absurd h (by omega)) (fun _ => ?_)
  refine lv_aload_n hx hb dX4_add_65 rfl (lv_at hl 1 rfl) ?_
  refine r_get (C := RX4) (T := TX4) (M := 9) (index := 13) (fd := "name") (fo := "[I") hx hb hts (by decide +kernel) hown hK hP 0 (by decide) mF_0 rfl 2 (by decide) rfl (by decide +kernel) rfl dX4_add_66 ?_
  refine lv_iconst (v := nI 3) hx hb dX4_add_69 (by decide) ?_
  refine lv_aload_n hx hb dX4_add_70 rfl (lv_at hl 1 rfl) ?_
  refine r_get (C := RX4) (T := TX4) (M := 9) (index := 35) (fd := "cards") (fo := "I") hx hb hts (by decide +kernel) hown hK hP 0 (by decide) mF_0 rfl 7 (by decide) rfl (by decide +kernel) rfl dX4_add_71 ?_
  refine r_mulN (a := 3) (b := n) (r := 3 * n) hx hb dX4_add_74 (by omega) ?_
  refine lv_iload_n hx hb dX4_add_75 rfl (lv_at hl 0 rfl) ?_
  refine r_addN (a := 3 * n) (b := 2) (r := 3 * n + 2) hx hb dX4_add_76 (by omega) ?_
  refine lv_iload_n hx hb dX4_add_77 rfl (lv_at hl 3 rfl) ?_
  refine r_iast (f' := mF cI ad (nI 0) n (up2 (up2 (up2 (up2 y 1 n b) 2 (3 * n) w) 2 (3 * n + 1) w) 2 (3 * n + 2) w)) hx hb hK hP hD hS 2 0 (by omega) mF_2 rfl (i := 3 * n + 2) (by omega) (by decide) (mF_up mF_2 (by decide)) dX4_add_78 (fun H locs hP hS => ?_)
  refine r_iincN (k := 0) (a := 2) (d := 1) (r := 3) (lv' := [(3, .int (nI 3)), (0, .ref (ad 0)), (1, .int b), (2, .int w)]) hx hb dX4_add_79 hl rfl (by omega) (by decide) rfl (fun ls hl => ?_)
  refine lv_goto (tgt := 60) hx hb dX4_add_82 (by decide) ?_
  refine lv_iload_n hx hb dX4_add_60 rfl (lv_at hl 0 rfl) ?_
  refine lv_iconst (v := nI 3) hx hb dX4_add_61 (by decide) ?_
  refine r_cgeN (a := 3) (b := 3) (tgt := 85) hx hb (by omega) (by omega) dX4_add_62 (by decide) (fun _ => ?_) (fun h => absurd h (by omega))
  refine lv_aload_n hx hb dX4_add_85 rfl (lv_at hl 1 rfl) ?_
  refine lv_dup hx hb dX4_add_86 rfl ?_
  refine r_get (C := RX4) (T := TX4) (M := 9) (index := 35) (fd := "cards") (fo := "I") hx hb hts (by decide +kernel) hown hK hP 0 (by decide) mF_0 rfl 7 (by decide) rfl (by decide +kernel) rfl dX4_add_87 ?_
  refine lv_iconst (v := nI 1) hx hb dX4_add_90 (by decide) ?_
  refine r_addN (a := n) (b := 1) (r := n + 1) hx hb dX4_add_91 (by omega) ?_
  refine r_put (C := RX4) (T := TX4) (M := 9) (index := 35) (fd := "cards") (f' := mF cI ad (nI 0) (n + 1) (up2 (up2 (up2 (up2 y 1 n b) 2 (3 * n) w) 2 (3 * n + 1) w) 2 (3 * n + 2) w)) hx hb hts (by decide +kernel) tyX4 tyX4_ok nmX4 hown hK hP hD hS 0 (by decide) mF_0 rfl 7 (by decide) rfl (by decide +kernel) (Nat.le_of_ble_eq_true rfl) mF_n dX4_add_92 (fun H locs hP hS => ?_)
  refine lv_aload_n hx hb dX4_add_95 rfl (lv_at hl 1 rfl) ?_
  refine r_get (C := RX4) (T := TX4) (M := 9) (index := 35) (fd := "cards") (fo := "I") hx hb hts (by decide +kernel) hown hK hP 0 (by decide) mF_0 rfl 7 (by decide) rfl (by decide +kernel) rfl dX4_add_96 ?_
  refine lv_iconst (v := nI 1) hx hb dX4_add_99 (by decide) ?_
  refine r_subN (a := n + 1) (b := 1) (r := n) hx hb dX4_add_100 (by omega) (by omega) ?_
  exact hret _ _ _ _ _ _ hP hS dX4_add_101 (rfl) (rfl)
set_option maxHeartbeats 4000000 in
set_option maxRecDepth 100000 in
theorem m_add_1 (l : Launch) (D : va_G) (cI : ClassId) (cA : ClassId) (ad : Nat → Nat) (th : Int32) (n : Nat) (y : Nat → Nat → Int32) (b : Int32) (w : Int32) (hbk : bookB b = false) : Met l yX4_add wsX4_add ({ frames := 2, cells := 0, slots := 0, locals := 42 }) (va_Pc [.ref (ad 0), .int b, .int w] (mX D cI cA ad th n y)) (qW D ad (mF cI ad (nI 1) n y) 8 (some (.int (nI 0)))) 0 0 (wA ad 8) := by
  refine c_ofW (cc := cX4_add) (maxL := 4) (ret := .int) (by decide) rfl rfl (Nat.le_of_ble_eq_true rfl) ?_
  intro p e s m av below meth cd Q hx hb hF hP hK hD hT hret ls hl
  have hown : s.vm.findClass RX4 = some m.cls := hF.2.2.2.1
  have hF : CallFix p m cd cX4_add 4 s av wsX4_add RX4 := hF
  have hts := hF.2.2.2.2
  have hl : lv_has ls 4 [(0, .ref (ad 0)), (1, .int b), (2, .int w)] := hl
  obtain ⟨H, eH⟩ : ∃ H9 : Heap, H9 = s.heap := ⟨_, rfl⟩
  obtain ⟨locs, eL⟩ : ∃ L9 : List Loc, L9 = [] := ⟨_, rfl⟩
  have hS : sS (wA ad 8) s.heap H locs := by rw [eH, eL]; exact sS.rf
  rw [← eH] at hP
  suffices hgo : W p l e ({ frames := 2, cells := 0, slots := 0, locals := 42 }) s m av below meth cd H locs 0 0 Q (F0 m 0 ls []) by rw [eH, eL] at hgo; exact hgo
  clear eH eL
  refine lv_aload_n hx hb dX4_add_0 rfl (lv_at hl 0 rfl) ?_
  refine lv_iload_n hx hb dX4_add_1 rfl (lv_at hl 1 rfl) ?_
  refine k_Ri (va_runS (As := [.int b]) (rest := [.ref (ad 0)]) hF (c_X4_isBook l b) (va_cwS 1 hts gX4_add_X4_isBook rfl rfl rfl (by decide +kernel) ⟨(Nat.le_of_ble_eq_true rfl), (Nat.le_of_ble_eq_true rfl)⟩) k_preS rfl rfl hl.1 rfl (lv_room (Nat.le_of_ble_eq_true rfl)) dX4_add_2 ⟨Nat.zero_le _, Nat.zero_le _⟩) ?_
  refine r_topi (show bI (bookB b) = bI false from congrArg bI (hbk)) ?_
  refine r_ifneB (b := false) (tgt := 12) hx hb dX4_add_5 (by decide) (fun h => absurd h (by decide)) (fun _ => ?_)
  refine lv_iconst (v := nI 1) hx hb dX4_add_8 (by decide) ?_
  refine lv_goto (tgt := 40) hx hb dX4_add_9 (by decide) ?_
  refine k_Wi (va_runV (As := [.int (nI 1)]) (rest := []) hF (c_X4_isFine_1 l D cI cA ad th n y) (cwV 1 hts gX4_add_X4_isFine rfl rfl rfl (by decide +kernel) ⟨(Nat.le_of_ble_eq_true rfl), (Nat.le_of_ble_eq_true rfl)⟩) (k_pre hP hK hD hT (k := 0) (by decide) mF_0 rfl) rfl rfl hl.1 rfl (lv_room (Nat.le_of_ble_eq_true rfl)) dX4_add_40 ⟨Nat.zero_le _, Nat.zero_le _⟩) hD hS (fun H locs hP hS => ?_)
  refine r_ifneB (b := false) (tgt := 48) hx hb dX4_add_43 (by decide) (fun h => absurd h (by decide)) (fun _ => ?_)
  refine lv_iconst (v := nI 0) hx hb dX4_add_46 (by decide) ?_
  exact hret _ _ _ _ _ _ hP hS dX4_add_47 (rfl) (rfl)
set_option maxHeartbeats 4000000 in
set_option maxRecDepth 100000 in
theorem m_add_2 (l : Launch) (D : va_G) (cI : ClassId) (cA : ClassId) (ad : Nat → Nat) (th : Int32) (n : Nat) (y : Nat → Nat → Int32) (b : Int32) (w : Int32) (hbk : bookB b = true) (hnm : nameB w = false) : Met l yX4_add wsX4_add ({ frames := 2, cells := 0, slots := 0, locals := 42 }) (va_Pc [.ref (ad 0), .int b, .int w] (mX D cI cA ad th n y)) (qW D ad (mF cI ad (nI 2) n y) 8 (some (.int (nI 0)))) 0 0 (wA ad 8) := by
  refine c_ofW (cc := cX4_add) (maxL := 4) (ret := .int) (by decide) rfl rfl (Nat.le_of_ble_eq_true rfl) ?_
  intro p e s m av below meth cd Q hx hb hF hP hK hD hT hret ls hl
  have hown : s.vm.findClass RX4 = some m.cls := hF.2.2.2.1
  have hF : CallFix p m cd cX4_add 4 s av wsX4_add RX4 := hF
  have hts := hF.2.2.2.2
  have hl : lv_has ls 4 [(0, .ref (ad 0)), (1, .int b), (2, .int w)] := hl
  obtain ⟨H, eH⟩ : ∃ H9 : Heap, H9 = s.heap := ⟨_, rfl⟩
  obtain ⟨locs, eL⟩ : ∃ L9 : List Loc, L9 = [] := ⟨_, rfl⟩
  have hS : sS (wA ad 8) s.heap H locs := by rw [eH, eL]; exact sS.rf
  rw [← eH] at hP
  suffices hgo : W p l e ({ frames := 2, cells := 0, slots := 0, locals := 42 }) s m av below meth cd H locs 0 0 Q (F0 m 0 ls []) by rw [eH, eL] at hgo; exact hgo
  clear eH eL
  refine lv_aload_n hx hb dX4_add_0 rfl (lv_at hl 0 rfl) ?_
  refine lv_iload_n hx hb dX4_add_1 rfl (lv_at hl 1 rfl) ?_
  refine k_Ri (va_runS (As := [.int b]) (rest := [.ref (ad 0)]) hF (c_X4_isBook l b) (va_cwS 1 hts gX4_add_X4_isBook rfl rfl rfl (by decide +kernel) ⟨(Nat.le_of_ble_eq_true rfl), (Nat.le_of_ble_eq_true rfl)⟩) k_preS rfl rfl hl.1 rfl (lv_room (Nat.le_of_ble_eq_true rfl)) dX4_add_2 ⟨Nat.zero_le _, Nat.zero_le _⟩) ?_
  refine r_topi (show bI (bookB b) = bI true from congrArg bI (hbk)) ?_
  refine r_ifneB (b := true) (tgt := 12) hx hb dX4_add_5 (by decide) (fun _ => ?_) (fun h => absurd h (by decide))
  refine lv_iload_n hx hb dX4_add_12 rfl (lv_at hl 2 rfl) ?_
  refine lv_iconst (v := nI 0) hx hb dX4_add_13 (by decide) ?_
  refine lv_bipush (v := nI 31) hx hb dX4_add_14 (by decide) ?_
  refine k_Ri (va_runS (As := [.int w, .int (nI 0), .int (nI 31)]) (rest := [.ref (ad 0)]) hF (c_X4_isIn l w (nI 0) (nI 31)) (va_cwS 3 hts gX4_add_X4_isIn rfl rfl rfl (by decide +kernel) ⟨(Nat.le_of_ble_eq_true rfl), (Nat.le_of_ble_eq_true rfl)⟩) k_preS rfl rfl hl.1 rfl (lv_room (Nat.le_of_ble_eq_true rfl)) dX4_add_16 ⟨Nat.zero_le _, Nat.zero_le _⟩) ?_
  refine r_topi (show bI (inB w (nI 0) (nI 31)) = bI false from congrArg bI (inB_name.trans hnm)) ?_
  refine r_ifneB (b := false) (tgt := 26) hx hb dX4_add_19 (by decide) (fun h => absurd h (by decide)) (fun _ => ?_)
  refine lv_iconst (v := nI 2) hx hb dX4_add_22 (by decide) ?_
  refine lv_goto (tgt := 40) hx hb dX4_add_23 (by decide) ?_
  refine k_Wi (va_runV (As := [.int (nI 2)]) (rest := []) hF (c_X4_isFine_2 l D cI cA ad th n y) (cwV 1 hts gX4_add_X4_isFine rfl rfl rfl (by decide +kernel) ⟨(Nat.le_of_ble_eq_true rfl), (Nat.le_of_ble_eq_true rfl)⟩) (k_pre hP hK hD hT (k := 0) (by decide) mF_0 rfl) rfl rfl hl.1 rfl (lv_room (Nat.le_of_ble_eq_true rfl)) dX4_add_40 ⟨Nat.zero_le _, Nat.zero_le _⟩) hD hS (fun H locs hP hS => ?_)
  refine r_ifneB (b := false) (tgt := 48) hx hb dX4_add_43 (by decide) (fun h => absurd h (by decide)) (fun _ => ?_)
  refine lv_iconst (v := nI 0) hx hb dX4_add_46 (by decide) ?_
  exact hret _ _ _ _ _ _ hP hS dX4_add_47 (rfl) (rfl)
set_option maxHeartbeats 4000000 in
set_option maxRecDepth 100000 in
theorem m_add_3 (l : Launch) (D : va_G) (cI : ClassId) (cA : ClassId) (ad : Nat → Nat) (th : Int32) (n : Nat) (y : Nat → Nat → Int32) (b : Int32) (w : Int32) (hbk : bookB b = true) (hnm : nameB w = true) (hn : n = 24) : Met l yX4_add wsX4_add ({ frames := 2, cells := 0, slots := 0, locals := 42 }) (va_Pc [.ref (ad 0), .int b, .int w] (mX D cI cA ad th n y)) (qW D ad (mF cI ad (nI 3) n y) 8 (some (.int (nI 0)))) 0 0 (wA ad 8) := by
  refine c_ofW (cc := cX4_add) (maxL := 4) (ret := .int) (by decide) rfl rfl (Nat.le_of_ble_eq_true rfl) ?_
  intro p e s m av below meth cd Q hx hb hF hP hK hD hT hret ls hl
  have hown : s.vm.findClass RX4 = some m.cls := hF.2.2.2.1
  have hF : CallFix p m cd cX4_add 4 s av wsX4_add RX4 := hF
  have hts := hF.2.2.2.2
  have hl : lv_has ls 4 [(0, .ref (ad 0)), (1, .int b), (2, .int w)] := hl
  obtain ⟨H, eH⟩ : ∃ H9 : Heap, H9 = s.heap := ⟨_, rfl⟩
  obtain ⟨locs, eL⟩ : ∃ L9 : List Loc, L9 = [] := ⟨_, rfl⟩
  have hS : sS (wA ad 8) s.heap H locs := by rw [eH, eL]; exact sS.rf
  rw [← eH] at hP
  suffices hgo : W p l e ({ frames := 2, cells := 0, slots := 0, locals := 42 }) s m av below meth cd H locs 0 0 Q (F0 m 0 ls []) by rw [eH, eL] at hgo; exact hgo
  clear eH eL
  refine lv_aload_n hx hb dX4_add_0 rfl (lv_at hl 0 rfl) ?_
  refine lv_iload_n hx hb dX4_add_1 rfl (lv_at hl 1 rfl) ?_
  refine k_Ri (va_runS (As := [.int b]) (rest := [.ref (ad 0)]) hF (c_X4_isBook l b) (va_cwS 1 hts gX4_add_X4_isBook rfl rfl rfl (by decide +kernel) ⟨(Nat.le_of_ble_eq_true rfl), (Nat.le_of_ble_eq_true rfl)⟩) k_preS rfl rfl hl.1 rfl (lv_room (Nat.le_of_ble_eq_true rfl)) dX4_add_2 ⟨Nat.zero_le _, Nat.zero_le _⟩) ?_
  refine r_topi (show bI (bookB b) = bI true from congrArg bI (hbk)) ?_
  refine r_ifneB (b := true) (tgt := 12) hx hb dX4_add_5 (by decide) (fun _ => ?_) (fun h => absurd h (by decide))
  refine lv_iload_n hx hb dX4_add_12 rfl (lv_at hl 2 rfl) ?_
  refine lv_iconst (v := nI 0) hx hb dX4_add_13 (by decide) ?_
  refine lv_bipush (v := nI 31) hx hb dX4_add_14 (by decide) ?_
  refine k_Ri (va_runS (As := [.int w, .int (nI 0), .int (nI 31)]) (rest := [.ref (ad 0)]) hF (c_X4_isIn l w (nI 0) (nI 31)) (va_cwS 3 hts gX4_add_X4_isIn rfl rfl rfl (by decide +kernel) ⟨(Nat.le_of_ble_eq_true rfl), (Nat.le_of_ble_eq_true rfl)⟩) k_preS rfl rfl hl.1 rfl (lv_room (Nat.le_of_ble_eq_true rfl)) dX4_add_16 ⟨Nat.zero_le _, Nat.zero_le _⟩) ?_
  refine r_topi (show bI (inB w (nI 0) (nI 31)) = bI true from congrArg bI (inB_name.trans hnm)) ?_
  refine r_ifneB (b := true) (tgt := 26) hx hb dX4_add_19 (by decide) (fun _ => ?_) (fun h => absurd h (by decide))
  refine lv_aload_n hx hb dX4_add_26 rfl (lv_at hl 0 rfl) ?_
  refine r_get (C := RX4) (T := TX4) (M := 9) (index := 35) (fd := "cards") (fo := "I") hx hb hts (by decide +kernel) hown hK hP 0 (by decide) mF_0 rfl 7 (by decide) rfl (by decide +kernel) rfl dX4_add_27 ?_
  refine lv_bipush (v := nI 24) hx hb dX4_add_30 (by decide) ?_
  refine r_cneN (a := n) (b := 24) (tgt := 39) hx hb (by omega) (by omega) dX4_add_32 (by decide) (fun h => absurd (by omega) h) (fun _ => ?_)
  refine lv_iconst (v := nI 3) hx hb dX4_add_35 (by decide) ?_
  refine lv_goto (tgt := 40) hx hb dX4_add_36 (by decide) ?_
  refine k_Wi (va_runV (As := [.int (nI 3)]) (rest := []) hF (c_X4_isFine_3 l D cI cA ad th n y) (cwV 1 hts gX4_add_X4_isFine rfl rfl rfl (by decide +kernel) ⟨(Nat.le_of_ble_eq_true rfl), (Nat.le_of_ble_eq_true rfl)⟩) (k_pre hP hK hD hT (k := 0) (by decide) mF_0 rfl) rfl rfl hl.1 rfl (lv_room (Nat.le_of_ble_eq_true rfl)) dX4_add_40 ⟨Nat.zero_le _, Nat.zero_le _⟩) hD hS (fun H locs hP hS => ?_)
  refine r_ifneB (b := false) (tgt := 48) hx hb dX4_add_43 (by decide) (fun h => absurd h (by decide)) (fun _ => ?_)
  refine lv_iconst (v := nI 0) hx hb dX4_add_46 (by decide) ?_
  exact hret _ _ _ _ _ _ hP hS dX4_add_47 (rfl) (rfl)
set_option maxHeartbeats 4000000 in
set_option maxRecDepth 100000 in
theorem m_turn_0 (l : Launch) (D : va_G) (cI : ClassId) (cA : ClassId) (ad : Nat → Nat) (th : Int32) (n : Nat) (y : Nat → Nat → Int32) (c : Nat) (v : Nat) (k : Nat) (w : Nat) (hc : c < n) (hn : n ≤ 24) (hv : v < 2) (hk : k < 2) (hw : w < 30) : Met l yX4_turn wsX4_turn ({ frames := 2, cells := 0, slots := 0, locals := 46 }) (va_Pc [.ref (ad 0), .int (nI c), .int (nI v), .int (nI k), .int (nI w)] (mX D cI cA ad th n y)) (qW D ad (mF cI ad (nI 0) n (mputS y n c v k (y 3 (6 * c + 2 * v + k) ^^^ bit w))) 8 (some (.int (bI (hasB (mputS y n c v k (y 3 (6 * c + 2 * v + k) ^^^ bit w) 3 (6 * c + 2 * v + k)) w))))) 0 0 (wA ad 8) := by
  refine c_ofW (cc := cX4_turn) (maxL := 6) (ret := .boolean) (by decide) rfl (nar_bI _) (Nat.le_of_ble_eq_true rfl) ?_
  intro p e s m av below meth cd Q hx hb hF hP hK hD hT hret ls hl
  have hown : s.vm.findClass RX4 = some m.cls := hF.2.2.2.1
  have hF : CallFix p m cd cX4_turn 6 s av wsX4_turn RX4 := hF
  have hts := hF.2.2.2.2
  have hl : lv_has ls 6 [(0, .ref (ad 0)), (1, .int (nI c)), (2, .int (nI v)), (3, .int (nI k)), (4, .int (nI w))] := hl
  obtain ⟨H, eH⟩ : ∃ H9 : Heap, H9 = s.heap := ⟨_, rfl⟩
  obtain ⟨locs, eL⟩ : ∃ L9 : List Loc, L9 = [] := ⟨_, rfl⟩
  have hS : sS (wA ad 8) s.heap H locs := by rw [eH, eL]; exact sS.rf
  rw [← eH] at hP
  suffices hgo : W p l e ({ frames := 2, cells := 0, slots := 0, locals := 46 }) s m av below meth cd H locs 0 0 Q (F0 m 0 ls []) by rw [eH, eL] at hgo; exact hgo
  clear eH eL
  refine lv_iload_n hx hb dX4_turn_0 rfl (lv_at hl 2 rfl) ?_
  refine lv_iconst (v := nI 0) hx hb dX4_turn_1 (by decide) ?_
  refine lv_iconst (v := nI 1) hx hb dX4_turn_2 (by decide) ?_
  refine k_Ri (va_runS (As := [.int (nI v), .int (nI 0), .int (nI 1)]) (rest := []) hF (c_X4_isIn l (nI v) (nI 0) (nI 1)) (va_cwS 3 hts gX4_turn_X4_isIn rfl rfl rfl (by decide +kernel) ⟨(Nat.le_of_ble_eq_true rfl), (Nat.le_of_ble_eq_true rfl)⟩) k_preS rfl rfl hl.1 rfl (lv_room (Nat.le_of_ble_eq_true rfl)) dX4_turn_3 ⟨Nat.zero_le _, Nat.zero_le _⟩) ?_
  refine r_topi (show bI (inB (nI v) (nI 0) (nI 1)) = bI true from congrArg bI (inB_chg.trans (chgB_ok hv))) ?_
  refine r_ifeqB (b := true) (tgt := 31) hx hb dX4_turn_6 (by decide) (fun h => absurd h (by decide)) (fun _ => ?_)
  refine lv_iload_n hx hb dX4_turn_9 rfl (lv_at hl 3 rfl) ?_
  refine k_Ri (va_runS (As := [.int (nI k)]) (rest := []) hF (c_X4_isKind l (nI k)) (va_cwS 1 hts gX4_turn_X4_isKind rfl rfl rfl (by decide +kernel) ⟨(Nat.le_of_ble_eq_true rfl), (Nat.le_of_ble_eq_true rfl)⟩) k_preS rfl rfl hl.1 rfl (lv_room (Nat.le_of_ble_eq_true rfl)) dX4_turn_10 ⟨Nat.zero_le _, Nat.zero_le _⟩) ?_
  refine r_topi (show bI (kindB (nI k)) = bI true from congrArg bI (kindB_ok hk)) ?_
  refine r_ifeqB (b := true) (tgt := 31) hx hb dX4_turn_13 (by decide) (fun h => absurd h (by decide)) (fun _ => ?_)
  refine lv_iload hx hb dX4_turn_16 (lv_at hl 4 rfl) ?_
  refine lv_iconst (v := nI 0) hx hb dX4_turn_18 (by decide) ?_
  refine lv_bipush (v := nI 29) hx hb dX4_turn_19 (by decide) ?_
  refine k_Ri (va_runS (As := [.int (nI w), .int (nI 0), .int (nI 29)]) (rest := []) hF (c_X4_isIn l (nI w) (nI 0) (nI 29)) (va_cwS 3 hts gX4_turn_X4_isIn rfl rfl rfl (by decide +kernel) ⟨(Nat.le_of_ble_eq_true rfl), (Nat.le_of_ble_eq_true rfl)⟩) k_preS rfl rfl hl.1 rfl (lv_room (Nat.le_of_ble_eq_true rfl)) dX4_turn_21 ⟨Nat.zero_le _, Nat.zero_le _⟩) ?_
  refine r_topi (show bI (inB (nI w) (nI 0) (nI 29)) = bI true from congrArg bI (inB_value.trans (valueB_ok hw))) ?_
  refine r_ifeqB (b := true) (tgt := 31) hx hb dX4_turn_24 (by decide) (fun h => absurd h (by decide)) (fun _ => ?_)
  refine lv_iconst (v := nI 1) hx hb dX4_turn_27 (by decide) ?_
  refine lv_goto (tgt := 32) hx hb dX4_turn_28 (by decide) ?_
  refine lv_istore (lv' := [(5, .int (nI 1)), (0, .ref (ad 0)), (1, .int (nI c)), (2, .int (nI v)), (3, .int (nI k)), (4, .int (nI w))]) hx hb dX4_turn_32 hl (by decide) rfl (fun ls hl => ?_)
  refine lv_aload_n hx hb dX4_turn_34 rfl (lv_at hl 1 rfl) ?_
  refine lv_aload_n hx hb dX4_turn_35 rfl (lv_at hl 1 rfl) ?_
  refine lv_iload_n hx hb dX4_turn_36 rfl (lv_at hl 2 rfl) ?_
  refine k_Ri (va_runV (As := [.int (nI c)]) (rest := [.ref (ad 0)]) hF (c_X4_isCard l D cI cA ad th n y (nI c) hn) (cwV 1 hts gX4_turn_X4_isCard rfl rfl rfl (by decide +kernel) ⟨(Nat.le_of_ble_eq_true rfl), (Nat.le_of_ble_eq_true rfl)⟩) (k_pre hP hK hD hT (k := 0) (by decide) mF_0 rfl) rfl rfl hl.1 rfl (lv_room (Nat.le_of_ble_eq_true rfl)) dX4_turn_37 ⟨Nat.zero_le _, Nat.zero_le _⟩) ?_
  refine r_topi (show bI (cardB n (nI c)) = bI true from congrArg bI (cardB_ok hc hn)) ?_
  refine r_ifneB (b := true) (tgt := 47) hx hb dX4_turn_40 (by decide) (fun _ => ?_) (fun h => absurd h (by decide))
  refine lv_iload hx hb dX4_turn_47 (lv_at hl 0 rfl) ?_
  refine r_ifneN (a := 1) (tgt := 56) hx hb (by omega) dX4_turn_49 (by decide) (fun _ => ?_) (fun h => absurd h (by omega))
  refine lv_iconst (v := nI 0) hx hb dX4_turn_56 (by decide) ?_
  refine k_Wi (va_runV (As := [.int (nI 0)]) (rest := []) hF (c_X4_isFine_0 l D cI cA ad th n y) (cwV 1 hts gX4_turn_X4_isFine rfl rfl rfl (by decide +kernel) ⟨(Nat.le_of_ble_eq_true rfl), (Nat.le_of_ble_eq_true rfl)⟩) (k_pre hP hK hD hT (k := 0) (by decide) mF_0 rfl) rfl rfl hl.1 rfl (lv_room (Nat.le_of_ble_eq_true rfl)) dX4_turn_57 ⟨Nat.zero_le _, Nat.zero_le _⟩) hD hS (fun H locs hP hS => ?_)
  refine r_ifneB (b := true) (tgt := 65) hx hb dX4_turn_60 (by decide) (fun _ => ?_) (fun h => absurd h (by decide))
  refine lv_aload_n hx hb dX4_turn_65 rfl (lv_at hl 1 rfl) ?_
  refine lv_iload_n hx hb dX4_turn_66 rfl (lv_at hl 2 rfl) ?_
  refine lv_iload_n hx hb dX4_turn_67 rfl (lv_at hl 3 rfl) ?_
  refine lv_iload_n hx hb dX4_turn_68 rfl (lv_at hl 4 rfl) ?_
  refine lv_aload_n hx hb dX4_turn_69 rfl (lv_at hl 1 rfl) ?_
  refine r_get (C := RX4) (T := TX4) (M := 9) (index := 16) (fd := "set") (fo := "[I") hx hb hts (by decide +kernel) hown hK hP 0 (by decide) mF_0 rfl 3 (by decide) rfl (by decide +kernel) rfl dX4_turn_70 ?_
  refine lv_iload_n hx hb dX4_turn_73 rfl (lv_at hl 2 rfl) ?_
  refine lv_iload_n hx hb dX4_turn_74 rfl (lv_at hl 3 rfl) ?_
  refine lv_iload_n hx hb dX4_turn_75 rfl (lv_at hl 4 rfl) ?_
  refine k_Ri (va_runS (As := [.int (nI c), .int (nI v), .int (nI k)]) (rest := [.ref (ad 3), .int (nI k), .int (nI v), .int (nI c), .ref (ad 0)]) hF (c_X4_at l c v k (by omega) (by omega) hk) (va_cwS 3 hts gX4_turn_X4_at rfl rfl rfl (by decide +kernel) ⟨(Nat.le_of_ble_eq_true rfl), (Nat.le_of_ble_eq_true rfl)⟩) k_preS rfl rfl hl.1 rfl (lv_room (Nat.le_of_ble_eq_true rfl)) dX4_turn_76 ⟨Nat.zero_le _, Nat.zero_le _⟩) ?_
  refine r_iald hx hb hK hP 3 0 (by omega) mF_3 rfl (i := 6 * c + 2 * v + k) (by omega) (by decide) dX4_turn_79 ?_
  refine lv_iconst (v := nI 1) hx hb dX4_turn_80 (by decide) ?_
  refine lv_iload hx hb dX4_turn_81 (lv_at hl 5 rfl) ?_
  refine r_bit hx hb dX4_turn_83 ?_
  refine lv_ixor hx hb dX4_turn_84 ?_
  refine k_Wv (va_runV (As := [.int (nI c), .int (nI v), .int (nI k), .int ((y 3 (6 * c + 2 * v + k)) ^^^ (bit w))]) (rest := []) hF (c_X4_sets l D cI cA ad (nI 0) n y c v k ((y 3 (6 * c + 2 * v + k)) ^^^ (bit w)) (by omega) (by omega) hk hn) (cwV 4 hts gX4_turn_X4_sets rfl rfl rfl (by decide +kernel) ⟨(Nat.le_of_ble_eq_true rfl), (Nat.le_of_ble_eq_true rfl)⟩) (k_pre hP hK hD hT (k := 0) (by decide) mF_0 rfl) rfl rfl hl.1 rfl (lv_room (Nat.le_of_ble_eq_true rfl)) dX4_turn_85 ⟨Nat.zero_le _, Nat.zero_le _⟩) hD hS (fun H locs hP hS => ?_)
  refine lv_aload_n hx hb dX4_turn_88 rfl (lv_at hl 1 rfl) ?_
  refine r_get (C := RX4) (T := TX4) (M := 9) (index := 16) (fd := "set") (fo := "[I") hx hb hts (by decide +kernel) hown hK hP 0 (by decide) mF_0 rfl 3 (by decide) rfl (by decide +kernel) rfl dX4_turn_89 ?_
  refine lv_iload_n hx hb dX4_turn_92 rfl (lv_at hl 2 rfl) ?_
  refine lv_iload_n hx hb dX4_turn_93 rfl (lv_at hl 3 rfl) ?_
  refine lv_iload_n hx hb dX4_turn_94 rfl (lv_at hl 4 rfl) ?_
  refine k_Ri (va_runS (As := [.int (nI c), .int (nI v), .int (nI k)]) (rest := [.ref (ad 3)]) hF (c_X4_at l c v k (by omega) (by omega) hk) (va_cwS 3 hts gX4_turn_X4_at rfl rfl rfl (by decide +kernel) ⟨(Nat.le_of_ble_eq_true rfl), (Nat.le_of_ble_eq_true rfl)⟩) k_preS rfl rfl hl.1 rfl (lv_room (Nat.le_of_ble_eq_true rfl)) dX4_turn_95 ⟨Nat.zero_le _, Nat.zero_le _⟩) ?_
  refine r_iald hx hb hK hP 3 0 (by omega) mF_3 rfl (i := 6 * c + 2 * v + k) (by omega) (by decide) dX4_turn_98 ?_
  refine lv_iload hx hb dX4_turn_99 (lv_at hl 5 rfl) ?_
  refine k_Ri (va_runS (As := [.int ((mputS y n c v k ((y 3 (6 * c + 2 * v + k)) ^^^ (bit w))) 3 (6 * c + 2 * v + k)), .int (nI w)]) (rest := []) hF (c_X4_has l w ((mputS y n c v k ((y 3 (6 * c + 2 * v + k)) ^^^ (bit w))) 3 (6 * c + 2 * v + k)) (by omega)) (va_cwS 2 hts gX4_turn_X4_has rfl rfl rfl (by decide +kernel) ⟨(Nat.le_of_ble_eq_true rfl), (Nat.le_of_ble_eq_true rfl)⟩) k_preS rfl rfl hl.1 rfl (lv_room (Nat.le_of_ble_eq_true rfl)) dX4_turn_101 ⟨Nat.zero_le _, Nat.zero_le _⟩) ?_
  exact hret _ _ _ _ _ _ hP hS dX4_turn_104 (rfl) (rfl)
set_option maxHeartbeats 4000000 in
set_option maxRecDepth 100000 in
theorem m_turn_1 (l : Launch) (D : va_G) (cI : ClassId) (cA : ClassId) (ad : Nat → Nat) (th : Int32) (n : Nat) (y : Nat → Nat → Int32) (a : Int32) (v : Int32) (k : Int32) (w : Int32) (hca : cardB n a = false) (hn : n ≤ 24) : Met l yX4_turn wsX4_turn ({ frames := 2, cells := 0, slots := 0, locals := 43 }) (va_Pc [.ref (ad 0), .int a, .int v, .int k, .int w] (mX D cI cA ad th n y)) (qW D ad (mF cI ad (nI 1) n y) 8 (some (.int (bI false)))) 0 0 (wA ad 8) := by
  refine c_ofW (cc := cX4_turn) (maxL := 6) (ret := .boolean) (by decide) rfl (nar_bI _) (Nat.le_of_ble_eq_true rfl) ?_
  intro p e s m av below meth cd Q hx hb hF hP hK hD hT hret ls hl
  have hown : s.vm.findClass RX4 = some m.cls := hF.2.2.2.1
  have hF : CallFix p m cd cX4_turn 6 s av wsX4_turn RX4 := hF
  have hts := hF.2.2.2.2
  have hl : lv_has ls 6 [(0, .ref (ad 0)), (1, .int a), (2, .int v), (3, .int k), (4, .int w)] := hl
  obtain ⟨H, eH⟩ : ∃ H9 : Heap, H9 = s.heap := ⟨_, rfl⟩
  obtain ⟨locs, eL⟩ : ∃ L9 : List Loc, L9 = [] := ⟨_, rfl⟩
  have hS : sS (wA ad 8) s.heap H locs := by rw [eH, eL]; exact sS.rf
  rw [← eH] at hP
  suffices hgo : W p l e ({ frames := 2, cells := 0, slots := 0, locals := 43 }) s m av below meth cd H locs 0 0 Q (F0 m 0 ls []) by rw [eH, eL] at hgo; exact hgo
  clear eH eL
  refine lv_iload_n hx hb dX4_turn_0 rfl (lv_at hl 2 rfl) ?_
  refine lv_iconst (v := nI 0) hx hb dX4_turn_1 (by decide) ?_
  refine lv_iconst (v := nI 1) hx hb dX4_turn_2 (by decide) ?_
  refine k_Ri (va_runS (As := [.int v, .int (nI 0), .int (nI 1)]) (rest := []) hF (c_X4_isIn l v (nI 0) (nI 1)) (va_cwS 3 hts gX4_turn_X4_isIn rfl rfl rfl (by decide +kernel) ⟨(Nat.le_of_ble_eq_true rfl), (Nat.le_of_ble_eq_true rfl)⟩) k_preS rfl rfl hl.1 rfl (lv_room (Nat.le_of_ble_eq_true rfl)) dX4_turn_3 ⟨Nat.zero_le _, Nat.zero_le _⟩) ?_
  have hJ32 : ∀ (H : Heap) (locs : List Loc), va_P D vwCl (wl ad (mF cI ad th n y) 8) H → sS (wA ad 8) s.heap H locs → ∀ ls : Array Slot, lv_has ls 6 [(0, .ref (ad 0)), (1, .int a), (2, .int v), (3, .int k), (4, .int w)] → W p l e ({ frames := 2, cells := 0, slots := 0, locals := 43 }) s m av below meth cd H locs 0 0 Q (F0 m 32 ls [.int (bI (chgB v && kindB k && valueB w))]) := by
    intro H locs hP hS ls hl
    refine lv_istore (lv' := [(5, .int (bI (chgB v && kindB k && valueB w))), (0, .ref (ad 0)), (1, .int a), (2, .int v), (3, .int k), (4, .int w)]) hx hb dX4_turn_32 hl (by decide) rfl (fun ls hl => ?_)
    refine lv_aload_n hx hb dX4_turn_34 rfl (lv_at hl 1 rfl) ?_
    refine lv_aload_n hx hb dX4_turn_35 rfl (lv_at hl 1 rfl) ?_
    refine lv_iload_n hx hb dX4_turn_36 rfl (lv_at hl 2 rfl) ?_
    refine k_Ri (va_runV (As := [.int a]) (rest := [.ref (ad 0)]) hF (c_X4_isCard l D cI cA ad th n y a hn) (cwV 1 hts gX4_turn_X4_isCard rfl rfl rfl (by decide +kernel) ⟨(Nat.le_of_ble_eq_true rfl), (Nat.le_of_ble_eq_true rfl)⟩) (k_pre hP hK hD hT (k := 0) (by decide) mF_0 rfl) rfl rfl hl.1 rfl (lv_room (Nat.le_of_ble_eq_true rfl)) dX4_turn_37 ⟨Nat.zero_le _, Nat.zero_le _⟩) ?_
    refine r_topi (show bI (cardB n a) = bI false from congrArg bI (hca)) ?_
    refine r_ifneB (b := false) (tgt := 47) hx hb dX4_turn_40 (by decide) (fun h => absurd h (by decide)) (fun _ => ?_)
    refine lv_iconst (v := nI 1) hx hb dX4_turn_43 (by decide) ?_
    refine lv_goto (tgt := 57) hx hb dX4_turn_44 (by decide) ?_
    refine k_Wi (va_runV (As := [.int (nI 1)]) (rest := []) hF (c_X4_isFine_1 l D cI cA ad th n y) (cwV 1 hts gX4_turn_X4_isFine rfl rfl rfl (by decide +kernel) ⟨(Nat.le_of_ble_eq_true rfl), (Nat.le_of_ble_eq_true rfl)⟩) (k_pre hP hK hD hT (k := 0) (by decide) mF_0 rfl) rfl rfl hl.1 rfl (lv_room (Nat.le_of_ble_eq_true rfl)) dX4_turn_57 ⟨Nat.zero_le _, Nat.zero_le _⟩) hD hS (fun H locs hP hS => ?_)
    refine r_ifneB (b := false) (tgt := 65) hx hb dX4_turn_60 (by decide) (fun h => absurd h (by decide)) (fun _ => ?_)
    refine lv_iconst (v := nI 0) hx hb dX4_turn_63 (by decide) ?_
    exact hret _ _ _ _ _ _ hP hS dX4_turn_64 (rfl) (rfl)
  refine r_topi (show bI (inB v (nI 0) (nI 1)) = bI (chgB v) from congrArg bI inB_chg) ?_
  refine r_ifeqB (b := chgB v) (tgt := 31) hx hb dX4_turn_6 (by decide) (fun h6_3 => ?_) (fun h6_3 => ?_)
  · refine lv_iconst (v := nI 0) hx hb dX4_turn_31 (by decide) ?_
    refine r_topi (show (nI 0 : Int32) = bI (chgB v && kindB k && valueB w) from by simp [bI, h6_3]) ?_
    exact hJ32 _ _ hP hS _ (lv_sub hl [0, 1, 2, 3, 4] rfl)
  · refine lv_iload_n hx hb dX4_turn_9 rfl (lv_at hl 3 rfl) ?_
    refine k_Ri (va_runS (As := [.int k]) (rest := []) hF (c_X4_isKind l k) (va_cwS 1 hts gX4_turn_X4_isKind rfl rfl rfl (by decide +kernel) ⟨(Nat.le_of_ble_eq_true rfl), (Nat.le_of_ble_eq_true rfl)⟩) k_preS rfl rfl hl.1 rfl (lv_room (Nat.le_of_ble_eq_true rfl)) dX4_turn_10 ⟨Nat.zero_le _, Nat.zero_le _⟩) ?_
    refine r_ifeqB (b := kindB k) (tgt := 31) hx hb dX4_turn_13 (by decide) (fun h13_4 => ?_) (fun h13_4 => ?_)
    · refine lv_iconst (v := nI 0) hx hb dX4_turn_31 (by decide) ?_
      refine r_topi (show (nI 0 : Int32) = bI (chgB v && kindB k && valueB w) from by simp [bI, h6_3, h13_4]) ?_
      exact hJ32 _ _ hP hS _ (lv_sub hl [0, 1, 2, 3, 4] rfl)
    · refine lv_iload hx hb dX4_turn_16 (lv_at hl 4 rfl) ?_
      refine lv_iconst (v := nI 0) hx hb dX4_turn_18 (by decide) ?_
      refine lv_bipush (v := nI 29) hx hb dX4_turn_19 (by decide) ?_
      refine k_Ri (va_runS (As := [.int w, .int (nI 0), .int (nI 29)]) (rest := []) hF (c_X4_isIn l w (nI 0) (nI 29)) (va_cwS 3 hts gX4_turn_X4_isIn rfl rfl rfl (by decide +kernel) ⟨(Nat.le_of_ble_eq_true rfl), (Nat.le_of_ble_eq_true rfl)⟩) k_preS rfl rfl hl.1 rfl (lv_room (Nat.le_of_ble_eq_true rfl)) dX4_turn_21 ⟨Nat.zero_le _, Nat.zero_le _⟩) ?_
      refine r_topi (show bI (inB w (nI 0) (nI 29)) = bI (valueB w) from congrArg bI inB_value) ?_
      refine r_ifeqB (b := valueB w) (tgt := 31) hx hb dX4_turn_24 (by decide) (fun h24_5 => ?_) (fun h24_5 => ?_)
      · refine lv_iconst (v := nI 0) hx hb dX4_turn_31 (by decide) ?_
        refine r_topi (show (nI 0 : Int32) = bI (chgB v && kindB k && valueB w) from by simp [bI, h6_3, h13_4, h24_5]) ?_
        exact hJ32 _ _ hP hS _ (lv_sub hl [0, 1, 2, 3, 4] rfl)
      · refine lv_iconst (v := nI 1) hx hb dX4_turn_27 (by decide) ?_
        refine lv_goto (tgt := 32) hx hb dX4_turn_28 (by decide) ?_
        refine r_topi (show (nI 1 : Int32) = bI (chgB v && kindB k && valueB w) from by simp [bI, h6_3, h13_4, h24_5]) ?_
        exact hJ32 _ _ hP hS _ (lv_sub hl [0, 1, 2, 3, 4] rfl)
set_option maxHeartbeats 4000000 in
set_option maxRecDepth 100000 in
theorem m_turn_2 (l : Launch) (D : va_G) (cI : ClassId) (cA : ClassId) (ad : Nat → Nat) (th : Int32) (n : Nat) (y : Nat → Nat → Int32) (c : Nat) (v : Int32) (k : Int32) (w : Int32) (hc : c < n) (hn : n ≤ 24) (hbad : (chgB v && kindB k && valueB w) = false) : Met l yX4_turn wsX4_turn ({ frames := 2, cells := 0, slots := 0, locals := 43 }) (va_Pc [.ref (ad 0), .int (nI c), .int v, .int k, .int w] (mX D cI cA ad th n y)) (qW D ad (mF cI ad (nI 2) n y) 8 (some (.int (bI false)))) 0 0 (wA ad 8) := by
  refine c_ofW (cc := cX4_turn) (maxL := 6) (ret := .boolean) (by decide) rfl (nar_bI _) (Nat.le_of_ble_eq_true rfl) ?_
  intro p e s m av below meth cd Q hx hb hF hP hK hD hT hret ls hl
  have hown : s.vm.findClass RX4 = some m.cls := hF.2.2.2.1
  have hF : CallFix p m cd cX4_turn 6 s av wsX4_turn RX4 := hF
  have hts := hF.2.2.2.2
  have hl : lv_has ls 6 [(0, .ref (ad 0)), (1, .int (nI c)), (2, .int v), (3, .int k), (4, .int w)] := hl
  obtain ⟨H, eH⟩ : ∃ H9 : Heap, H9 = s.heap := ⟨_, rfl⟩
  obtain ⟨locs, eL⟩ : ∃ L9 : List Loc, L9 = [] := ⟨_, rfl⟩
  have hS : sS (wA ad 8) s.heap H locs := by rw [eH, eL]; exact sS.rf
  rw [← eH] at hP
  suffices hgo : W p l e ({ frames := 2, cells := 0, slots := 0, locals := 43 }) s m av below meth cd H locs 0 0 Q (F0 m 0 ls []) by rw [eH, eL] at hgo; exact hgo
  clear eH eL
  refine lv_iload_n hx hb dX4_turn_0 rfl (lv_at hl 2 rfl) ?_
  refine lv_iconst (v := nI 0) hx hb dX4_turn_1 (by decide) ?_
  refine lv_iconst (v := nI 1) hx hb dX4_turn_2 (by decide) ?_
  refine k_Ri (va_runS (As := [.int v, .int (nI 0), .int (nI 1)]) (rest := []) hF (c_X4_isIn l v (nI 0) (nI 1)) (va_cwS 3 hts gX4_turn_X4_isIn rfl rfl rfl (by decide +kernel) ⟨(Nat.le_of_ble_eq_true rfl), (Nat.le_of_ble_eq_true rfl)⟩) k_preS rfl rfl hl.1 rfl (lv_room (Nat.le_of_ble_eq_true rfl)) dX4_turn_3 ⟨Nat.zero_le _, Nat.zero_le _⟩) ?_
  have hJ32 : ∀ (H : Heap) (locs : List Loc), va_P D vwCl (wl ad (mF cI ad th n y) 8) H → sS (wA ad 8) s.heap H locs → ∀ ls : Array Slot, lv_has ls 6 [(0, .ref (ad 0)), (1, .int (nI c)), (2, .int v), (3, .int k), (4, .int w)] → W p l e ({ frames := 2, cells := 0, slots := 0, locals := 43 }) s m av below meth cd H locs 0 0 Q (F0 m 32 ls [.int (bI (chgB v && kindB k && valueB w))]) := by
    intro H locs hP hS ls hl
    refine lv_istore (lv' := [(5, .int (bI (chgB v && kindB k && valueB w))), (0, .ref (ad 0)), (1, .int (nI c)), (2, .int v), (3, .int k), (4, .int w)]) hx hb dX4_turn_32 hl (by decide) rfl (fun ls hl => ?_)
    refine lv_aload_n hx hb dX4_turn_34 rfl (lv_at hl 1 rfl) ?_
    refine lv_aload_n hx hb dX4_turn_35 rfl (lv_at hl 1 rfl) ?_
    refine lv_iload_n hx hb dX4_turn_36 rfl (lv_at hl 2 rfl) ?_
    refine k_Ri (va_runV (As := [.int (nI c)]) (rest := [.ref (ad 0)]) hF (c_X4_isCard l D cI cA ad th n y (nI c) hn) (cwV 1 hts gX4_turn_X4_isCard rfl rfl rfl (by decide +kernel) ⟨(Nat.le_of_ble_eq_true rfl), (Nat.le_of_ble_eq_true rfl)⟩) (k_pre hP hK hD hT (k := 0) (by decide) mF_0 rfl) rfl rfl hl.1 rfl (lv_room (Nat.le_of_ble_eq_true rfl)) dX4_turn_37 ⟨Nat.zero_le _, Nat.zero_le _⟩) ?_
    refine r_topi (show bI (cardB n (nI c)) = bI true from congrArg bI (cardB_ok hc hn)) ?_
    refine r_ifneB (b := true) (tgt := 47) hx hb dX4_turn_40 (by decide) (fun _ => ?_) (fun h => absurd h (by decide))
    refine lv_iload hx hb dX4_turn_47 (lv_at hl 0 rfl) ?_
    refine r_ifneB (b := chgB v && kindB k && valueB w) (tgt := 56) hx hb dX4_turn_49 (by decide) (fun h => absurd (h.symm.trans hbad) (by decide)) (fun _ => ?_)
    refine lv_iconst (v := nI 2) hx hb dX4_turn_52 (by decide) ?_
    refine lv_goto (tgt := 57) hx hb dX4_turn_53 (by decide) ?_
    refine k_Wi (va_runV (As := [.int (nI 2)]) (rest := []) hF (c_X4_isFine_2 l D cI cA ad th n y) (cwV 1 hts gX4_turn_X4_isFine rfl rfl rfl (by decide +kernel) ⟨(Nat.le_of_ble_eq_true rfl), (Nat.le_of_ble_eq_true rfl)⟩) (k_pre hP hK hD hT (k := 0) (by decide) mF_0 rfl) rfl rfl hl.1 rfl (lv_room (Nat.le_of_ble_eq_true rfl)) dX4_turn_57 ⟨Nat.zero_le _, Nat.zero_le _⟩) hD hS (fun H locs hP hS => ?_)
    refine r_ifneB (b := false) (tgt := 65) hx hb dX4_turn_60 (by decide) (fun h => absurd h (by decide)) (fun _ => ?_)
    refine lv_iconst (v := nI 0) hx hb dX4_turn_63 (by decide) ?_
    exact hret _ _ _ _ _ _ hP hS dX4_turn_64 (rfl) (rfl)
  refine r_topi (show bI (inB v (nI 0) (nI 1)) = bI (chgB v) from congrArg bI inB_chg) ?_
  refine r_ifeqB (b := chgB v) (tgt := 31) hx hb dX4_turn_6 (by decide) (fun h6_4 => ?_) (fun h6_4 => ?_)
  · refine lv_iconst (v := nI 0) hx hb dX4_turn_31 (by decide) ?_
    refine r_topi (show (nI 0 : Int32) = bI (chgB v && kindB k && valueB w) from by simp [bI, h6_4]) ?_
    exact hJ32 _ _ hP hS _ (lv_sub hl [0, 1, 2, 3, 4] rfl)
  · refine lv_iload_n hx hb dX4_turn_9 rfl (lv_at hl 3 rfl) ?_
    refine k_Ri (va_runS (As := [.int k]) (rest := []) hF (c_X4_isKind l k) (va_cwS 1 hts gX4_turn_X4_isKind rfl rfl rfl (by decide +kernel) ⟨(Nat.le_of_ble_eq_true rfl), (Nat.le_of_ble_eq_true rfl)⟩) k_preS rfl rfl hl.1 rfl (lv_room (Nat.le_of_ble_eq_true rfl)) dX4_turn_10 ⟨Nat.zero_le _, Nat.zero_le _⟩) ?_
    refine r_ifeqB (b := kindB k) (tgt := 31) hx hb dX4_turn_13 (by decide) (fun h13_5 => ?_) (fun h13_5 => ?_)
    · refine lv_iconst (v := nI 0) hx hb dX4_turn_31 (by decide) ?_
      refine r_topi (show (nI 0 : Int32) = bI (chgB v && kindB k && valueB w) from by simp [bI, h6_4, h13_5]) ?_
      exact hJ32 _ _ hP hS _ (lv_sub hl [0, 1, 2, 3, 4] rfl)
    · refine lv_iload hx hb dX4_turn_16 (lv_at hl 4 rfl) ?_
      refine lv_iconst (v := nI 0) hx hb dX4_turn_18 (by decide) ?_
      refine lv_bipush (v := nI 29) hx hb dX4_turn_19 (by decide) ?_
      refine k_Ri (va_runS (As := [.int w, .int (nI 0), .int (nI 29)]) (rest := []) hF (c_X4_isIn l w (nI 0) (nI 29)) (va_cwS 3 hts gX4_turn_X4_isIn rfl rfl rfl (by decide +kernel) ⟨(Nat.le_of_ble_eq_true rfl), (Nat.le_of_ble_eq_true rfl)⟩) k_preS rfl rfl hl.1 rfl (lv_room (Nat.le_of_ble_eq_true rfl)) dX4_turn_21 ⟨Nat.zero_le _, Nat.zero_le _⟩) ?_
      refine r_topi (show bI (inB w (nI 0) (nI 29)) = bI (valueB w) from congrArg bI inB_value) ?_
      refine r_ifeqB (b := valueB w) (tgt := 31) hx hb dX4_turn_24 (by decide) (fun h24_6 => ?_) (fun h24_6 => ?_)
      · refine lv_iconst (v := nI 0) hx hb dX4_turn_31 (by decide) ?_
        refine r_topi (show (nI 0 : Int32) = bI (chgB v && kindB k && valueB w) from by simp [bI, h6_4, h13_5, h24_6]) ?_
        exact hJ32 _ _ hP hS _ (lv_sub hl [0, 1, 2, 3, 4] rfl)
      · refine lv_iconst (v := nI 1) hx hb dX4_turn_27 (by decide) ?_
        refine lv_goto (tgt := 32) hx hb dX4_turn_28 (by decide) ?_
        refine r_topi (show (nI 1 : Int32) = bI (chgB v && kindB k && valueB w) from by simp [bI, h6_4, h13_5, h24_6]) ?_
        exact hJ32 _ _ hP hS _ (lv_sub hl [0, 1, 2, 3, 4] rfl)
set_option maxHeartbeats 4000000 in
set_option maxRecDepth 100000 in
theorem m_rename_0 (l : Launch) (D : va_G) (cI : ClassId) (cA : ClassId) (ad : Nat → Nat) (th : Int32) (n : Nat) (y : Nat → Nat → Int32) (c : Nat) (v : Nat) (w : Int32) (hc : c < n) (hn : n ≤ 24) (hv : v < 2) (hnm : nameB w = true) : Met l yX4_rename wsX4_rename ({ frames := 2, cells := 0, slots := 0, locals := 45 }) (va_Pc [.ref (ad 0), .int (nI c), .int (nI v), .int w] (mX D cI cA ad th n y)) (qW D ad (mF cI ad (nI 0) n (mputN y n c v w)) 8 (some (.int (y 2 (3 * c + v))))) 0 0 (wA ad 8) := by
  refine c_ofW (cc := cX4_rename) (maxL := 6) (ret := .int) (by decide) rfl rfl (Nat.le_of_ble_eq_true rfl) ?_
  intro p e s m av below meth cd Q hx hb hF hP hK hD hT hret ls hl
  have hown : s.vm.findClass RX4 = some m.cls := hF.2.2.2.1
  have hF : CallFix p m cd cX4_rename 6 s av wsX4_rename RX4 := hF
  have hts := hF.2.2.2.2
  have hl : lv_has ls 6 [(0, .ref (ad 0)), (1, .int (nI c)), (2, .int (nI v)), (3, .int w)] := hl
  obtain ⟨H, eH⟩ : ∃ H9 : Heap, H9 = s.heap := ⟨_, rfl⟩
  obtain ⟨locs, eL⟩ : ∃ L9 : List Loc, L9 = [] := ⟨_, rfl⟩
  have hS : sS (wA ad 8) s.heap H locs := by rw [eH, eL]; exact sS.rf
  rw [← eH] at hP
  suffices hgo : W p l e ({ frames := 2, cells := 0, slots := 0, locals := 45 }) s m av below meth cd H locs 0 0 Q (F0 m 0 ls []) by rw [eH, eL] at hgo; exact hgo
  clear eH eL
  refine lv_iload_n hx hb dX4_rename_0 rfl (lv_at hl 2 rfl) ?_
  refine lv_iconst (v := nI 0) hx hb dX4_rename_1 (by decide) ?_
  refine lv_iconst (v := nI 1) hx hb dX4_rename_2 (by decide) ?_
  refine k_Ri (va_runS (As := [.int (nI v), .int (nI 0), .int (nI 1)]) (rest := []) hF (c_X4_isIn l (nI v) (nI 0) (nI 1)) (va_cwS 3 hts gX4_rename_X4_isIn rfl rfl rfl (by decide +kernel) ⟨(Nat.le_of_ble_eq_true rfl), (Nat.le_of_ble_eq_true rfl)⟩) k_preS rfl rfl hl.1 rfl (lv_room (Nat.le_of_ble_eq_true rfl)) dX4_rename_3 ⟨Nat.zero_le _, Nat.zero_le _⟩) ?_
  refine r_topi (show bI (inB (nI v) (nI 0) (nI 1)) = bI true from congrArg bI (inB_chg.trans (chgB_ok hv))) ?_
  refine r_ifeqB (b := true) (tgt := 23) hx hb dX4_rename_6 (by decide) (fun h => absurd h (by decide)) (fun _ => ?_)
  refine lv_iload_n hx hb dX4_rename_9 rfl (lv_at hl 3 rfl) ?_
  refine lv_iconst (v := nI 0) hx hb dX4_rename_10 (by decide) ?_
  refine lv_bipush (v := nI 31) hx hb dX4_rename_11 (by decide) ?_
  refine k_Ri (va_runS (As := [.int w, .int (nI 0), .int (nI 31)]) (rest := []) hF (c_X4_isIn l w (nI 0) (nI 31)) (va_cwS 3 hts gX4_rename_X4_isIn rfl rfl rfl (by decide +kernel) ⟨(Nat.le_of_ble_eq_true rfl), (Nat.le_of_ble_eq_true rfl)⟩) k_preS rfl rfl hl.1 rfl (lv_room (Nat.le_of_ble_eq_true rfl)) dX4_rename_13 ⟨Nat.zero_le _, Nat.zero_le _⟩) ?_
  refine r_topi (show bI (inB w (nI 0) (nI 31)) = bI true from congrArg bI (inB_name.trans hnm)) ?_
  refine r_ifeqB (b := true) (tgt := 23) hx hb dX4_rename_16 (by decide) (fun h => absurd h (by decide)) (fun _ => ?_)
  refine lv_iconst (v := nI 1) hx hb dX4_rename_19 (by decide) ?_
  refine lv_goto (tgt := 24) hx hb dX4_rename_20 (by decide) ?_
  refine lv_istore (lv' := [(4, .int (nI 1)), (0, .ref (ad 0)), (1, .int (nI c)), (2, .int (nI v)), (3, .int w)]) hx hb dX4_rename_24 hl (by decide) rfl (fun ls hl => ?_)
  refine lv_aload_n hx hb dX4_rename_26 rfl (lv_at hl 1 rfl) ?_
  refine lv_aload_n hx hb dX4_rename_27 rfl (lv_at hl 1 rfl) ?_
  refine lv_iload_n hx hb dX4_rename_28 rfl (lv_at hl 2 rfl) ?_
  refine k_Ri (va_runV (As := [.int (nI c)]) (rest := [.ref (ad 0)]) hF (c_X4_isCard l D cI cA ad th n y (nI c) hn) (cwV 1 hts gX4_rename_X4_isCard rfl rfl rfl (by decide +kernel) ⟨(Nat.le_of_ble_eq_true rfl), (Nat.le_of_ble_eq_true rfl)⟩) (k_pre hP hK hD hT (k := 0) (by decide) mF_0 rfl) rfl rfl hl.1 rfl (lv_room (Nat.le_of_ble_eq_true rfl)) dX4_rename_29 ⟨Nat.zero_le _, Nat.zero_le _⟩) ?_
  refine r_topi (show bI (cardB n (nI c)) = bI true from congrArg bI (cardB_ok hc hn)) ?_
  refine r_ifneB (b := true) (tgt := 39) hx hb dX4_rename_32 (by decide) (fun _ => ?_) (fun h => absurd h (by decide))
  refine lv_iload hx hb dX4_rename_39 (lv_at hl 0 rfl) ?_
  refine r_ifneN (a := 1) (tgt := 48) hx hb (by omega) dX4_rename_41 (by decide) (fun _ => ?_) (fun h => absurd h (by omega))
  refine lv_iconst (v := nI 0) hx hb dX4_rename_48 (by decide) ?_
  refine k_Wi (va_runV (As := [.int (nI 0)]) (rest := []) hF (c_X4_isFine_0 l D cI cA ad th n y) (cwV 1 hts gX4_rename_X4_isFine rfl rfl rfl (by decide +kernel) ⟨(Nat.le_of_ble_eq_true rfl), (Nat.le_of_ble_eq_true rfl)⟩) (k_pre hP hK hD hT (k := 0) (by decide) mF_0 rfl) rfl rfl hl.1 rfl (lv_room (Nat.le_of_ble_eq_true rfl)) dX4_rename_49 ⟨Nat.zero_le _, Nat.zero_le _⟩) hD hS (fun H locs hP hS => ?_)
  refine r_ifneB (b := true) (tgt := 57) hx hb dX4_rename_52 (by decide) (fun _ => ?_) (fun h => absurd h (by decide))
  refine lv_aload_n hx hb dX4_rename_57 rfl (lv_at hl 1 rfl) ?_
  refine r_get (C := RX4) (T := TX4) (M := 9) (index := 13) (fd := "name") (fo := "[I") hx hb hts (by decide +kernel) hown hK hP 0 (by decide) mF_0 rfl 2 (by decide) rfl (by decide +kernel) rfl dX4_rename_58 ?_
  refine lv_iconst (v := nI 3) hx hb dX4_rename_61 (by decide) ?_
  refine lv_iload_n hx hb dX4_rename_62 rfl (lv_at hl 2 rfl) ?_
  refine r_mulN (a := 3) (b := c) (r := 3 * c) hx hb dX4_rename_63 (by omega) ?_
  refine lv_iload_n hx hb dX4_rename_64 rfl (lv_at hl 3 rfl) ?_
  refine r_addN (a := 3 * c) (b := v) (r := 3 * c + v) hx hb dX4_rename_65 (by omega) ?_
  refine r_iald hx hb hK hP 2 0 (by omega) mF_2 rfl (i := 3 * c + v) (by omega) (by decide) dX4_rename_66 ?_
  refine lv_istore (lv' := [(5, .int (y 2 (3 * c + v))), (4, .int (nI 1)), (0, .ref (ad 0)), (1, .int (nI c)), (2, .int (nI v)), (3, .int w)]) hx hb dX4_rename_67 hl (by decide) rfl (fun ls hl => ?_)
  refine lv_aload_n hx hb dX4_rename_69 rfl (lv_at hl 2 rfl) ?_
  refine lv_iload_n hx hb dX4_rename_70 rfl (lv_at hl 3 rfl) ?_
  refine lv_iload_n hx hb dX4_rename_71 rfl (lv_at hl 4 rfl) ?_
  refine lv_iload_n hx hb dX4_rename_72 rfl (lv_at hl 5 rfl) ?_
  refine k_Wv (va_runV (As := [.int (nI c), .int (nI v), .int w]) (rest := []) hF (c_X4_names l D cI cA ad (nI 0) n y c v w (by omega) (by omega) hn) (cwV 3 hts gX4_rename_X4_names rfl rfl rfl (by decide +kernel) ⟨(Nat.le_of_ble_eq_true rfl), (Nat.le_of_ble_eq_true rfl)⟩) (k_pre hP hK hD hT (k := 0) (by decide) mF_0 rfl) rfl rfl hl.1 rfl (lv_room (Nat.le_of_ble_eq_true rfl)) dX4_rename_73 ⟨Nat.zero_le _, Nat.zero_le _⟩) hD hS (fun H locs hP hS => ?_)
  refine lv_iload hx hb dX4_rename_76 (lv_at hl 0 rfl) ?_
  exact hret _ _ _ _ _ _ hP hS dX4_rename_78 (rfl) (rfl)
set_option maxHeartbeats 4000000 in
set_option maxRecDepth 100000 in
theorem m_rename_1 (l : Launch) (D : va_G) (cI : ClassId) (cA : ClassId) (ad : Nat → Nat) (th : Int32) (n : Nat) (y : Nat → Nat → Int32) (a : Int32) (v : Int32) (w : Int32) (hca : cardB n a = false) (hn : n ≤ 24) : Met l yX4_rename wsX4_rename ({ frames := 2, cells := 0, slots := 0, locals := 43 }) (va_Pc [.ref (ad 0), .int a, .int v, .int w] (mX D cI cA ad th n y)) (qW D ad (mF cI ad (nI 1) n y) 8 (some (.int (nI 0)))) 0 0 (wA ad 8) := by
  refine c_ofW (cc := cX4_rename) (maxL := 6) (ret := .int) (by decide) rfl rfl (Nat.le_of_ble_eq_true rfl) ?_
  intro p e s m av below meth cd Q hx hb hF hP hK hD hT hret ls hl
  have hown : s.vm.findClass RX4 = some m.cls := hF.2.2.2.1
  have hF : CallFix p m cd cX4_rename 6 s av wsX4_rename RX4 := hF
  have hts := hF.2.2.2.2
  have hl : lv_has ls 6 [(0, .ref (ad 0)), (1, .int a), (2, .int v), (3, .int w)] := hl
  obtain ⟨H, eH⟩ : ∃ H9 : Heap, H9 = s.heap := ⟨_, rfl⟩
  obtain ⟨locs, eL⟩ : ∃ L9 : List Loc, L9 = [] := ⟨_, rfl⟩
  have hS : sS (wA ad 8) s.heap H locs := by rw [eH, eL]; exact sS.rf
  rw [← eH] at hP
  suffices hgo : W p l e ({ frames := 2, cells := 0, slots := 0, locals := 43 }) s m av below meth cd H locs 0 0 Q (F0 m 0 ls []) by rw [eH, eL] at hgo; exact hgo
  clear eH eL
  refine lv_iload_n hx hb dX4_rename_0 rfl (lv_at hl 2 rfl) ?_
  refine lv_iconst (v := nI 0) hx hb dX4_rename_1 (by decide) ?_
  refine lv_iconst (v := nI 1) hx hb dX4_rename_2 (by decide) ?_
  refine k_Ri (va_runS (As := [.int v, .int (nI 0), .int (nI 1)]) (rest := []) hF (c_X4_isIn l v (nI 0) (nI 1)) (va_cwS 3 hts gX4_rename_X4_isIn rfl rfl rfl (by decide +kernel) ⟨(Nat.le_of_ble_eq_true rfl), (Nat.le_of_ble_eq_true rfl)⟩) k_preS rfl rfl hl.1 rfl (lv_room (Nat.le_of_ble_eq_true rfl)) dX4_rename_3 ⟨Nat.zero_le _, Nat.zero_le _⟩) ?_
  have hJ24 : ∀ (H : Heap) (locs : List Loc), va_P D vwCl (wl ad (mF cI ad th n y) 8) H → sS (wA ad 8) s.heap H locs → ∀ ls : Array Slot, lv_has ls 6 [(0, .ref (ad 0)), (1, .int a), (2, .int v), (3, .int w)] → W p l e ({ frames := 2, cells := 0, slots := 0, locals := 43 }) s m av below meth cd H locs 0 0 Q (F0 m 24 ls [.int (bI (chgB v && nameB w))]) := by
    intro H locs hP hS ls hl
    refine lv_istore (lv' := [(4, .int (bI (chgB v && nameB w))), (0, .ref (ad 0)), (1, .int a), (2, .int v), (3, .int w)]) hx hb dX4_rename_24 hl (by decide) rfl (fun ls hl => ?_)
    refine lv_aload_n hx hb dX4_rename_26 rfl (lv_at hl 1 rfl) ?_
    refine lv_aload_n hx hb dX4_rename_27 rfl (lv_at hl 1 rfl) ?_
    refine lv_iload_n hx hb dX4_rename_28 rfl (lv_at hl 2 rfl) ?_
    refine k_Ri (va_runV (As := [.int a]) (rest := [.ref (ad 0)]) hF (c_X4_isCard l D cI cA ad th n y a hn) (cwV 1 hts gX4_rename_X4_isCard rfl rfl rfl (by decide +kernel) ⟨(Nat.le_of_ble_eq_true rfl), (Nat.le_of_ble_eq_true rfl)⟩) (k_pre hP hK hD hT (k := 0) (by decide) mF_0 rfl) rfl rfl hl.1 rfl (lv_room (Nat.le_of_ble_eq_true rfl)) dX4_rename_29 ⟨Nat.zero_le _, Nat.zero_le _⟩) ?_
    refine r_topi (show bI (cardB n a) = bI false from congrArg bI (hca)) ?_
    refine r_ifneB (b := false) (tgt := 39) hx hb dX4_rename_32 (by decide) (fun h => absurd h (by decide)) (fun _ => ?_)
    refine lv_iconst (v := nI 1) hx hb dX4_rename_35 (by decide) ?_
    refine lv_goto (tgt := 49) hx hb dX4_rename_36 (by decide) ?_
    refine k_Wi (va_runV (As := [.int (nI 1)]) (rest := []) hF (c_X4_isFine_1 l D cI cA ad th n y) (cwV 1 hts gX4_rename_X4_isFine rfl rfl rfl (by decide +kernel) ⟨(Nat.le_of_ble_eq_true rfl), (Nat.le_of_ble_eq_true rfl)⟩) (k_pre hP hK hD hT (k := 0) (by decide) mF_0 rfl) rfl rfl hl.1 rfl (lv_room (Nat.le_of_ble_eq_true rfl)) dX4_rename_49 ⟨Nat.zero_le _, Nat.zero_le _⟩) hD hS (fun H locs hP hS => ?_)
    refine r_ifneB (b := false) (tgt := 57) hx hb dX4_rename_52 (by decide) (fun h => absurd h (by decide)) (fun _ => ?_)
    refine lv_iconst (v := nI 0) hx hb dX4_rename_55 (by decide) ?_
    exact hret _ _ _ _ _ _ hP hS dX4_rename_56 (rfl) (rfl)
  refine r_topi (show bI (inB v (nI 0) (nI 1)) = bI (chgB v) from congrArg bI inB_chg) ?_
  refine r_ifeqB (b := chgB v) (tgt := 23) hx hb dX4_rename_6 (by decide) (fun h6_3 => ?_) (fun h6_3 => ?_)
  · refine lv_iconst (v := nI 0) hx hb dX4_rename_23 (by decide) ?_
    refine r_topi (show (nI 0 : Int32) = bI (chgB v && nameB w) from by simp [bI, h6_3]) ?_
    exact hJ24 _ _ hP hS _ (lv_sub hl [0, 1, 2, 3] rfl)
  · refine lv_iload_n hx hb dX4_rename_9 rfl (lv_at hl 3 rfl) ?_
    refine lv_iconst (v := nI 0) hx hb dX4_rename_10 (by decide) ?_
    refine lv_bipush (v := nI 31) hx hb dX4_rename_11 (by decide) ?_
    refine k_Ri (va_runS (As := [.int w, .int (nI 0), .int (nI 31)]) (rest := []) hF (c_X4_isIn l w (nI 0) (nI 31)) (va_cwS 3 hts gX4_rename_X4_isIn rfl rfl rfl (by decide +kernel) ⟨(Nat.le_of_ble_eq_true rfl), (Nat.le_of_ble_eq_true rfl)⟩) k_preS rfl rfl hl.1 rfl (lv_room (Nat.le_of_ble_eq_true rfl)) dX4_rename_13 ⟨Nat.zero_le _, Nat.zero_le _⟩) ?_
    refine r_topi (show bI (inB w (nI 0) (nI 31)) = bI (nameB w) from congrArg bI inB_name) ?_
    refine r_ifeqB (b := nameB w) (tgt := 23) hx hb dX4_rename_16 (by decide) (fun h16_4 => ?_) (fun h16_4 => ?_)
    · refine lv_iconst (v := nI 0) hx hb dX4_rename_23 (by decide) ?_
      refine r_topi (show (nI 0 : Int32) = bI (chgB v && nameB w) from by simp [bI, h6_3, h16_4]) ?_
      exact hJ24 _ _ hP hS _ (lv_sub hl [0, 1, 2, 3] rfl)
    · refine lv_iconst (v := nI 1) hx hb dX4_rename_19 (by decide) ?_
      refine lv_goto (tgt := 24) hx hb dX4_rename_20 (by decide) ?_
      refine r_topi (show (nI 1 : Int32) = bI (chgB v && nameB w) from by simp [bI, h6_3, h16_4]) ?_
      exact hJ24 _ _ hP hS _ (lv_sub hl [0, 1, 2, 3] rfl)
set_option maxHeartbeats 4000000 in
set_option maxRecDepth 100000 in
theorem m_rename_2 (l : Launch) (D : va_G) (cI : ClassId) (cA : ClassId) (ad : Nat → Nat) (th : Int32) (n : Nat) (y : Nat → Nat → Int32) (c : Nat) (v : Int32) (w : Int32) (hc : c < n) (hn : n ≤ 24) (hbad : (chgB v && nameB w) = false) : Met l yX4_rename wsX4_rename ({ frames := 2, cells := 0, slots := 0, locals := 43 }) (va_Pc [.ref (ad 0), .int (nI c), .int v, .int w] (mX D cI cA ad th n y)) (qW D ad (mF cI ad (nI 2) n y) 8 (some (.int (nI 0)))) 0 0 (wA ad 8) := by
  refine c_ofW (cc := cX4_rename) (maxL := 6) (ret := .int) (by decide) rfl rfl (Nat.le_of_ble_eq_true rfl) ?_
  intro p e s m av below meth cd Q hx hb hF hP hK hD hT hret ls hl
  have hown : s.vm.findClass RX4 = some m.cls := hF.2.2.2.1
  have hF : CallFix p m cd cX4_rename 6 s av wsX4_rename RX4 := hF
  have hts := hF.2.2.2.2
  have hl : lv_has ls 6 [(0, .ref (ad 0)), (1, .int (nI c)), (2, .int v), (3, .int w)] := hl
  obtain ⟨H, eH⟩ : ∃ H9 : Heap, H9 = s.heap := ⟨_, rfl⟩
  obtain ⟨locs, eL⟩ : ∃ L9 : List Loc, L9 = [] := ⟨_, rfl⟩
  have hS : sS (wA ad 8) s.heap H locs := by rw [eH, eL]; exact sS.rf
  rw [← eH] at hP
  suffices hgo : W p l e ({ frames := 2, cells := 0, slots := 0, locals := 43 }) s m av below meth cd H locs 0 0 Q (F0 m 0 ls []) by rw [eH, eL] at hgo; exact hgo
  clear eH eL
  refine lv_iload_n hx hb dX4_rename_0 rfl (lv_at hl 2 rfl) ?_
  refine lv_iconst (v := nI 0) hx hb dX4_rename_1 (by decide) ?_
  refine lv_iconst (v := nI 1) hx hb dX4_rename_2 (by decide) ?_
  refine k_Ri (va_runS (As := [.int v, .int (nI 0), .int (nI 1)]) (rest := []) hF (c_X4_isIn l v (nI 0) (nI 1)) (va_cwS 3 hts gX4_rename_X4_isIn rfl rfl rfl (by decide +kernel) ⟨(Nat.le_of_ble_eq_true rfl), (Nat.le_of_ble_eq_true rfl)⟩) k_preS rfl rfl hl.1 rfl (lv_room (Nat.le_of_ble_eq_true rfl)) dX4_rename_3 ⟨Nat.zero_le _, Nat.zero_le _⟩) ?_
  have hJ24 : ∀ (H : Heap) (locs : List Loc), va_P D vwCl (wl ad (mF cI ad th n y) 8) H → sS (wA ad 8) s.heap H locs → ∀ ls : Array Slot, lv_has ls 6 [(0, .ref (ad 0)), (1, .int (nI c)), (2, .int v), (3, .int w)] → W p l e ({ frames := 2, cells := 0, slots := 0, locals := 43 }) s m av below meth cd H locs 0 0 Q (F0 m 24 ls [.int (bI (chgB v && nameB w))]) := by
    intro H locs hP hS ls hl
    refine lv_istore (lv' := [(4, .int (bI (chgB v && nameB w))), (0, .ref (ad 0)), (1, .int (nI c)), (2, .int v), (3, .int w)]) hx hb dX4_rename_24 hl (by decide) rfl (fun ls hl => ?_)
    refine lv_aload_n hx hb dX4_rename_26 rfl (lv_at hl 1 rfl) ?_
    refine lv_aload_n hx hb dX4_rename_27 rfl (lv_at hl 1 rfl) ?_
    refine lv_iload_n hx hb dX4_rename_28 rfl (lv_at hl 2 rfl) ?_
    refine k_Ri (va_runV (As := [.int (nI c)]) (rest := [.ref (ad 0)]) hF (c_X4_isCard l D cI cA ad th n y (nI c) hn) (cwV 1 hts gX4_rename_X4_isCard rfl rfl rfl (by decide +kernel) ⟨(Nat.le_of_ble_eq_true rfl), (Nat.le_of_ble_eq_true rfl)⟩) (k_pre hP hK hD hT (k := 0) (by decide) mF_0 rfl) rfl rfl hl.1 rfl (lv_room (Nat.le_of_ble_eq_true rfl)) dX4_rename_29 ⟨Nat.zero_le _, Nat.zero_le _⟩) ?_
    refine r_topi (show bI (cardB n (nI c)) = bI true from congrArg bI (cardB_ok hc hn)) ?_
    refine r_ifneB (b := true) (tgt := 39) hx hb dX4_rename_32 (by decide) (fun _ => ?_) (fun h => absurd h (by decide))
    refine lv_iload hx hb dX4_rename_39 (lv_at hl 0 rfl) ?_
    refine r_ifneB (b := chgB v && nameB w) (tgt := 48) hx hb dX4_rename_41 (by decide) (fun h => absurd (h.symm.trans hbad) (by decide)) (fun _ => ?_)
    refine lv_iconst (v := nI 2) hx hb dX4_rename_44 (by decide) ?_
    refine lv_goto (tgt := 49) hx hb dX4_rename_45 (by decide) ?_
    refine k_Wi (va_runV (As := [.int (nI 2)]) (rest := []) hF (c_X4_isFine_2 l D cI cA ad th n y) (cwV 1 hts gX4_rename_X4_isFine rfl rfl rfl (by decide +kernel) ⟨(Nat.le_of_ble_eq_true rfl), (Nat.le_of_ble_eq_true rfl)⟩) (k_pre hP hK hD hT (k := 0) (by decide) mF_0 rfl) rfl rfl hl.1 rfl (lv_room (Nat.le_of_ble_eq_true rfl)) dX4_rename_49 ⟨Nat.zero_le _, Nat.zero_le _⟩) hD hS (fun H locs hP hS => ?_)
    refine r_ifneB (b := false) (tgt := 57) hx hb dX4_rename_52 (by decide) (fun h => absurd h (by decide)) (fun _ => ?_)
    refine lv_iconst (v := nI 0) hx hb dX4_rename_55 (by decide) ?_
    exact hret _ _ _ _ _ _ hP hS dX4_rename_56 (rfl) (rfl)
  refine r_topi (show bI (inB v (nI 0) (nI 1)) = bI (chgB v) from congrArg bI inB_chg) ?_
  refine r_ifeqB (b := chgB v) (tgt := 23) hx hb dX4_rename_6 (by decide) (fun h6_4 => ?_) (fun h6_4 => ?_)
  · refine lv_iconst (v := nI 0) hx hb dX4_rename_23 (by decide) ?_
    refine r_topi (show (nI 0 : Int32) = bI (chgB v && nameB w) from by simp [bI, h6_4]) ?_
    exact hJ24 _ _ hP hS _ (lv_sub hl [0, 1, 2, 3] rfl)
  · refine lv_iload_n hx hb dX4_rename_9 rfl (lv_at hl 3 rfl) ?_
    refine lv_iconst (v := nI 0) hx hb dX4_rename_10 (by decide) ?_
    refine lv_bipush (v := nI 31) hx hb dX4_rename_11 (by decide) ?_
    refine k_Ri (va_runS (As := [.int w, .int (nI 0), .int (nI 31)]) (rest := []) hF (c_X4_isIn l w (nI 0) (nI 31)) (va_cwS 3 hts gX4_rename_X4_isIn rfl rfl rfl (by decide +kernel) ⟨(Nat.le_of_ble_eq_true rfl), (Nat.le_of_ble_eq_true rfl)⟩) k_preS rfl rfl hl.1 rfl (lv_room (Nat.le_of_ble_eq_true rfl)) dX4_rename_13 ⟨Nat.zero_le _, Nat.zero_le _⟩) ?_
    refine r_topi (show bI (inB w (nI 0) (nI 31)) = bI (nameB w) from congrArg bI inB_name) ?_
    refine r_ifeqB (b := nameB w) (tgt := 23) hx hb dX4_rename_16 (by decide) (fun h16_5 => ?_) (fun h16_5 => ?_)
    · refine lv_iconst (v := nI 0) hx hb dX4_rename_23 (by decide) ?_
      refine r_topi (show (nI 0 : Int32) = bI (chgB v && nameB w) from by simp [bI, h6_4, h16_5]) ?_
      exact hJ24 _ _ hP hS _ (lv_sub hl [0, 1, 2, 3] rfl)
    · refine lv_iconst (v := nI 1) hx hb dX4_rename_19 (by decide) ?_
      refine lv_goto (tgt := 24) hx hb dX4_rename_20 (by decide) ?_
      refine r_topi (show (nI 1 : Int32) = bI (chgB v && nameB w) from by simp [bI, h6_4, h16_5]) ?_
      exact hJ24 _ _ hP hS _ (lv_sub hl [0, 1, 2, 3] rfl)
set_option maxHeartbeats 4000000 in
set_option maxRecDepth 100000 in
theorem m_values_0 (l : Launch) (D : va_G) (cI : ClassId) (cA : ClassId) (ad : Nat → Nat) (th : Int32) (n : Nat) (y : Nat → Nat → Int32) (c : Nat) (v : Nat) (k : Nat) (hc : c < n) (hn : n ≤ 24) (hv : v < 3) (hk : k < 2) : Met l yX4_values wsX4_values ({ frames := 2, cells := 0, slots := 0, locals := 43 }) (va_Pc [.ref (ad 0), .int (nI c), .int (nI v), .int (nI k)] (mX D cI cA ad th n y)) (qW D ad (mF cI ad (nI 0) n y) 8 (some (.int (y 3 (6 * c + 2 * v + k))))) 0 0 (wA ad 8) := by
  refine c_ofW (cc := cX4_values) (maxL := 5) (ret := .int) (by decide) rfl rfl (Nat.le_of_ble_eq_true rfl) ?_
  intro p e s m av below meth cd Q hx hb hF hP hK hD hT hret ls hl
  have hown : s.vm.findClass RX4 = some m.cls := hF.2.2.2.1
  have hF : CallFix p m cd cX4_values 5 s av wsX4_values RX4 := hF
  have hts := hF.2.2.2.2
  have hl : lv_has ls 5 [(0, .ref (ad 0)), (1, .int (nI c)), (2, .int (nI v)), (3, .int (nI k))] := hl
  obtain ⟨H, eH⟩ : ∃ H9 : Heap, H9 = s.heap := ⟨_, rfl⟩
  obtain ⟨locs, eL⟩ : ∃ L9 : List Loc, L9 = [] := ⟨_, rfl⟩
  have hS : sS (wA ad 8) s.heap H locs := by rw [eH, eL]; exact sS.rf
  rw [← eH] at hP
  suffices hgo : W p l e ({ frames := 2, cells := 0, slots := 0, locals := 43 }) s m av below meth cd H locs 0 0 Q (F0 m 0 ls []) by rw [eH, eL] at hgo; exact hgo
  clear eH eL
  refine lv_iload_n hx hb dX4_values_0 rfl (lv_at hl 2 rfl) ?_
  refine lv_iconst (v := nI 0) hx hb dX4_values_1 (by decide) ?_
  refine lv_iconst (v := nI 2) hx hb dX4_values_2 (by decide) ?_
  refine k_Ri (va_runS (As := [.int (nI v), .int (nI 0), .int (nI 2)]) (rest := []) hF (c_X4_isIn l (nI v) (nI 0) (nI 2)) (va_cwS 3 hts gX4_values_X4_isIn rfl rfl rfl (by decide +kernel) ⟨(Nat.le_of_ble_eq_true rfl), (Nat.le_of_ble_eq_true rfl)⟩) k_preS rfl rfl hl.1 rfl (lv_room (Nat.le_of_ble_eq_true rfl)) dX4_values_3 ⟨Nat.zero_le _, Nat.zero_le _⟩) ?_
  refine r_topi (show bI (inB (nI v) (nI 0) (nI 2)) = bI true from congrArg bI (inB_ver.trans (verB_ok hv))) ?_
  refine r_ifeqB (b := true) (tgt := 20) hx hb dX4_values_6 (by decide) (fun h => absurd h (by decide)) (fun _ => ?_)
  refine lv_iload_n hx hb dX4_values_9 rfl (lv_at hl 3 rfl) ?_
  refine k_Ri (va_runS (As := [.int (nI k)]) (rest := []) hF (c_X4_isKind l (nI k)) (va_cwS 1 hts gX4_values_X4_isKind rfl rfl rfl (by decide +kernel) ⟨(Nat.le_of_ble_eq_true rfl), (Nat.le_of_ble_eq_true rfl)⟩) k_preS rfl rfl hl.1 rfl (lv_room (Nat.le_of_ble_eq_true rfl)) dX4_values_10 ⟨Nat.zero_le _, Nat.zero_le _⟩) ?_
  refine r_topi (show bI (kindB (nI k)) = bI true from congrArg bI (kindB_ok hk)) ?_
  refine r_ifeqB (b := true) (tgt := 20) hx hb dX4_values_13 (by decide) (fun h => absurd h (by decide)) (fun _ => ?_)
  refine lv_iconst (v := nI 1) hx hb dX4_values_16 (by decide) ?_
  refine lv_goto (tgt := 21) hx hb dX4_values_17 (by decide) ?_
  refine lv_istore (lv' := [(4, .int (nI 1)), (0, .ref (ad 0)), (1, .int (nI c)), (2, .int (nI v)), (3, .int (nI k))]) hx hb dX4_values_21 hl (by decide) rfl (fun ls hl => ?_)
  refine lv_aload_n hx hb dX4_values_23 rfl (lv_at hl 1 rfl) ?_
  refine lv_aload_n hx hb dX4_values_24 rfl (lv_at hl 1 rfl) ?_
  refine lv_iload_n hx hb dX4_values_25 rfl (lv_at hl 2 rfl) ?_
  refine k_Ri (va_runV (As := [.int (nI c)]) (rest := [.ref (ad 0)]) hF (c_X4_isCard l D cI cA ad th n y (nI c) hn) (cwV 1 hts gX4_values_X4_isCard rfl rfl rfl (by decide +kernel) ⟨(Nat.le_of_ble_eq_true rfl), (Nat.le_of_ble_eq_true rfl)⟩) (k_pre hP hK hD hT (k := 0) (by decide) mF_0 rfl) rfl rfl hl.1 rfl (lv_room (Nat.le_of_ble_eq_true rfl)) dX4_values_26 ⟨Nat.zero_le _, Nat.zero_le _⟩) ?_
  refine r_topi (show bI (cardB n (nI c)) = bI true from congrArg bI (cardB_ok hc hn)) ?_
  refine r_ifneB (b := true) (tgt := 36) hx hb dX4_values_29 (by decide) (fun _ => ?_) (fun h => absurd h (by decide))
  refine lv_iload hx hb dX4_values_36 (lv_at hl 0 rfl) ?_
  refine r_ifneN (a := 1) (tgt := 45) hx hb (by omega) dX4_values_38 (by decide) (fun _ => ?_) (fun h => absurd h (by omega))
  refine lv_iconst (v := nI 0) hx hb dX4_values_45 (by decide) ?_
  refine k_Wi (va_runV (As := [.int (nI 0)]) (rest := []) hF (c_X4_isFine_0 l D cI cA ad th n y) (cwV 1 hts gX4_values_X4_isFine rfl rfl rfl (by decide +kernel) ⟨(Nat.le_of_ble_eq_true rfl), (Nat.le_of_ble_eq_true rfl)⟩) (k_pre hP hK hD hT (k := 0) (by decide) mF_0 rfl) rfl rfl hl.1 rfl (lv_room (Nat.le_of_ble_eq_true rfl)) dX4_values_46 ⟨Nat.zero_le _, Nat.zero_le _⟩) hD hS (fun H locs hP hS => ?_)
  refine r_ifeqB (b := true) (tgt := 66) hx hb dX4_values_49 (by decide) (fun h => absurd h (by decide)) (fun _ => ?_)
  refine lv_aload_n hx hb dX4_values_52 rfl (lv_at hl 1 rfl) ?_
  refine r_get (C := RX4) (T := TX4) (M := 9) (index := 16) (fd := "set") (fo := "[I") hx hb hts (by decide +kernel) hown hK hP 0 (by decide) mF_0 rfl 3 (by decide) rfl (by decide +kernel) rfl dX4_values_53 ?_
  refine lv_iload_n hx hb dX4_values_56 rfl (lv_at hl 2 rfl) ?_
  refine lv_iload_n hx hb dX4_values_57 rfl (lv_at hl 3 rfl) ?_
  refine lv_iload_n hx hb dX4_values_58 rfl (lv_at hl 4 rfl) ?_
  refine k_Ri (va_runS (As := [.int (nI c), .int (nI v), .int (nI k)]) (rest := [.ref (ad 3)]) hF (c_X4_at l c v k (by omega) hv hk) (va_cwS 3 hts gX4_values_X4_at rfl rfl rfl (by decide +kernel) ⟨(Nat.le_of_ble_eq_true rfl), (Nat.le_of_ble_eq_true rfl)⟩) k_preS rfl rfl hl.1 rfl (lv_room (Nat.le_of_ble_eq_true rfl)) dX4_values_59 ⟨Nat.zero_le _, Nat.zero_le _⟩) ?_
  refine r_iald hx hb hK hP 3 0 (by omega) mF_3 rfl (i := 6 * c + 2 * v + k) (by omega) (by decide) dX4_values_62 ?_
  refine lv_goto (tgt := 67) hx hb dX4_values_63 (by decide) ?_
  exact hret _ _ _ _ _ _ hP hS dX4_values_67 (rfl) (rfl)
set_option maxHeartbeats 4000000 in
set_option maxRecDepth 100000 in
theorem m_values_1 (l : Launch) (D : va_G) (cI : ClassId) (cA : ClassId) (ad : Nat → Nat) (th : Int32) (n : Nat) (y : Nat → Nat → Int32) (a : Int32) (v : Int32) (k : Int32) (hca : cardB n a = false) (hn : n ≤ 24) : Met l yX4_values wsX4_values ({ frames := 2, cells := 0, slots := 0, locals := 43 }) (va_Pc [.ref (ad 0), .int a, .int v, .int k] (mX D cI cA ad th n y)) (qW D ad (mF cI ad (nI 1) n y) 8 (some (.int (nI 0)))) 0 0 (wA ad 8) := by
  refine c_ofW (cc := cX4_values) (maxL := 5) (ret := .int) (by decide) rfl rfl (Nat.le_of_ble_eq_true rfl) ?_
  intro p e s m av below meth cd Q hx hb hF hP hK hD hT hret ls hl
  have hown : s.vm.findClass RX4 = some m.cls := hF.2.2.2.1
  have hF : CallFix p m cd cX4_values 5 s av wsX4_values RX4 := hF
  have hts := hF.2.2.2.2
  have hl : lv_has ls 5 [(0, .ref (ad 0)), (1, .int a), (2, .int v), (3, .int k)] := hl
  obtain ⟨H, eH⟩ : ∃ H9 : Heap, H9 = s.heap := ⟨_, rfl⟩
  obtain ⟨locs, eL⟩ : ∃ L9 : List Loc, L9 = [] := ⟨_, rfl⟩
  have hS : sS (wA ad 8) s.heap H locs := by rw [eH, eL]; exact sS.rf
  rw [← eH] at hP
  suffices hgo : W p l e ({ frames := 2, cells := 0, slots := 0, locals := 43 }) s m av below meth cd H locs 0 0 Q (F0 m 0 ls []) by rw [eH, eL] at hgo; exact hgo
  clear eH eL
  refine lv_iload_n hx hb dX4_values_0 rfl (lv_at hl 2 rfl) ?_
  refine lv_iconst (v := nI 0) hx hb dX4_values_1 (by decide) ?_
  refine lv_iconst (v := nI 2) hx hb dX4_values_2 (by decide) ?_
  refine k_Ri (va_runS (As := [.int v, .int (nI 0), .int (nI 2)]) (rest := []) hF (c_X4_isIn l v (nI 0) (nI 2)) (va_cwS 3 hts gX4_values_X4_isIn rfl rfl rfl (by decide +kernel) ⟨(Nat.le_of_ble_eq_true rfl), (Nat.le_of_ble_eq_true rfl)⟩) k_preS rfl rfl hl.1 rfl (lv_room (Nat.le_of_ble_eq_true rfl)) dX4_values_3 ⟨Nat.zero_le _, Nat.zero_le _⟩) ?_
  have hJ21 : ∀ (H : Heap) (locs : List Loc), va_P D vwCl (wl ad (mF cI ad th n y) 8) H → sS (wA ad 8) s.heap H locs → ∀ ls : Array Slot, lv_has ls 5 [(0, .ref (ad 0)), (1, .int a), (2, .int v), (3, .int k)] → W p l e ({ frames := 2, cells := 0, slots := 0, locals := 43 }) s m av below meth cd H locs 0 0 Q (F0 m 21 ls [.int (bI (verB v && kindB k))]) := by
    intro H locs hP hS ls hl
    refine lv_istore (lv' := [(4, .int (bI (verB v && kindB k))), (0, .ref (ad 0)), (1, .int a), (2, .int v), (3, .int k)]) hx hb dX4_values_21 hl (by decide) rfl (fun ls hl => ?_)
    refine lv_aload_n hx hb dX4_values_23 rfl (lv_at hl 1 rfl) ?_
    refine lv_aload_n hx hb dX4_values_24 rfl (lv_at hl 1 rfl) ?_
    refine lv_iload_n hx hb dX4_values_25 rfl (lv_at hl 2 rfl) ?_
    refine k_Ri (va_runV (As := [.int a]) (rest := [.ref (ad 0)]) hF (c_X4_isCard l D cI cA ad th n y a hn) (cwV 1 hts gX4_values_X4_isCard rfl rfl rfl (by decide +kernel) ⟨(Nat.le_of_ble_eq_true rfl), (Nat.le_of_ble_eq_true rfl)⟩) (k_pre hP hK hD hT (k := 0) (by decide) mF_0 rfl) rfl rfl hl.1 rfl (lv_room (Nat.le_of_ble_eq_true rfl)) dX4_values_26 ⟨Nat.zero_le _, Nat.zero_le _⟩) ?_
    refine r_topi (show bI (cardB n a) = bI false from congrArg bI (hca)) ?_
    refine r_ifneB (b := false) (tgt := 36) hx hb dX4_values_29 (by decide) (fun h => absurd h (by decide)) (fun _ => ?_)
    refine lv_iconst (v := nI 1) hx hb dX4_values_32 (by decide) ?_
    refine lv_goto (tgt := 46) hx hb dX4_values_33 (by decide) ?_
    refine k_Wi (va_runV (As := [.int (nI 1)]) (rest := []) hF (c_X4_isFine_1 l D cI cA ad th n y) (cwV 1 hts gX4_values_X4_isFine rfl rfl rfl (by decide +kernel) ⟨(Nat.le_of_ble_eq_true rfl), (Nat.le_of_ble_eq_true rfl)⟩) (k_pre hP hK hD hT (k := 0) (by decide) mF_0 rfl) rfl rfl hl.1 rfl (lv_room (Nat.le_of_ble_eq_true rfl)) dX4_values_46 ⟨Nat.zero_le _, Nat.zero_le _⟩) hD hS (fun H locs hP hS => ?_)
    refine r_ifeqB (b := false) (tgt := 66) hx hb dX4_values_49 (by decide) (fun _ => ?_) (fun h => absurd h (by decide))
    refine lv_iconst (v := nI 0) hx hb dX4_values_66 (by decide) ?_
    exact hret _ _ _ _ _ _ hP hS dX4_values_67 (rfl) (rfl)
  refine r_topi (show bI (inB v (nI 0) (nI 2)) = bI (verB v) from congrArg bI inB_ver) ?_
  refine r_ifeqB (b := verB v) (tgt := 20) hx hb dX4_values_6 (by decide) (fun h6_3 => ?_) (fun h6_3 => ?_)
  · refine lv_iconst (v := nI 0) hx hb dX4_values_20 (by decide) ?_
    refine r_topi (show (nI 0 : Int32) = bI (verB v && kindB k) from by simp [bI, h6_3]) ?_
    exact hJ21 _ _ hP hS _ (lv_sub hl [0, 1, 2, 3] rfl)
  · refine lv_iload_n hx hb dX4_values_9 rfl (lv_at hl 3 rfl) ?_
    refine k_Ri (va_runS (As := [.int k]) (rest := []) hF (c_X4_isKind l k) (va_cwS 1 hts gX4_values_X4_isKind rfl rfl rfl (by decide +kernel) ⟨(Nat.le_of_ble_eq_true rfl), (Nat.le_of_ble_eq_true rfl)⟩) k_preS rfl rfl hl.1 rfl (lv_room (Nat.le_of_ble_eq_true rfl)) dX4_values_10 ⟨Nat.zero_le _, Nat.zero_le _⟩) ?_
    refine r_ifeqB (b := kindB k) (tgt := 20) hx hb dX4_values_13 (by decide) (fun h13_4 => ?_) (fun h13_4 => ?_)
    · refine lv_iconst (v := nI 0) hx hb dX4_values_20 (by decide) ?_
      refine r_topi (show (nI 0 : Int32) = bI (verB v && kindB k) from by simp [bI, h6_3, h13_4]) ?_
      exact hJ21 _ _ hP hS _ (lv_sub hl [0, 1, 2, 3] rfl)
    · refine lv_iconst (v := nI 1) hx hb dX4_values_16 (by decide) ?_
      refine lv_goto (tgt := 21) hx hb dX4_values_17 (by decide) ?_
      refine r_topi (show (nI 1 : Int32) = bI (verB v && kindB k) from by simp [bI, h6_3, h13_4]) ?_
      exact hJ21 _ _ hP hS _ (lv_sub hl [0, 1, 2, 3] rfl)
set_option maxHeartbeats 4000000 in
set_option maxRecDepth 100000 in
theorem m_values_2 (l : Launch) (D : va_G) (cI : ClassId) (cA : ClassId) (ad : Nat → Nat) (th : Int32) (n : Nat) (y : Nat → Nat → Int32) (c : Nat) (v : Int32) (k : Int32) (hc : c < n) (hn : n ≤ 24) (hbad : (verB v && kindB k) = false) : Met l yX4_values wsX4_values ({ frames := 2, cells := 0, slots := 0, locals := 43 }) (va_Pc [.ref (ad 0), .int (nI c), .int v, .int k] (mX D cI cA ad th n y)) (qW D ad (mF cI ad (nI 2) n y) 8 (some (.int (nI 0)))) 0 0 (wA ad 8) := by
  refine c_ofW (cc := cX4_values) (maxL := 5) (ret := .int) (by decide) rfl rfl (Nat.le_of_ble_eq_true rfl) ?_
  intro p e s m av below meth cd Q hx hb hF hP hK hD hT hret ls hl
  have hown : s.vm.findClass RX4 = some m.cls := hF.2.2.2.1
  have hF : CallFix p m cd cX4_values 5 s av wsX4_values RX4 := hF
  have hts := hF.2.2.2.2
  have hl : lv_has ls 5 [(0, .ref (ad 0)), (1, .int (nI c)), (2, .int v), (3, .int k)] := hl
  obtain ⟨H, eH⟩ : ∃ H9 : Heap, H9 = s.heap := ⟨_, rfl⟩
  obtain ⟨locs, eL⟩ : ∃ L9 : List Loc, L9 = [] := ⟨_, rfl⟩
  have hS : sS (wA ad 8) s.heap H locs := by rw [eH, eL]; exact sS.rf
  rw [← eH] at hP
  suffices hgo : W p l e ({ frames := 2, cells := 0, slots := 0, locals := 43 }) s m av below meth cd H locs 0 0 Q (F0 m 0 ls []) by rw [eH, eL] at hgo; exact hgo
  clear eH eL
  refine lv_iload_n hx hb dX4_values_0 rfl (lv_at hl 2 rfl) ?_
  refine lv_iconst (v := nI 0) hx hb dX4_values_1 (by decide) ?_
  refine lv_iconst (v := nI 2) hx hb dX4_values_2 (by decide) ?_
  refine k_Ri (va_runS (As := [.int v, .int (nI 0), .int (nI 2)]) (rest := []) hF (c_X4_isIn l v (nI 0) (nI 2)) (va_cwS 3 hts gX4_values_X4_isIn rfl rfl rfl (by decide +kernel) ⟨(Nat.le_of_ble_eq_true rfl), (Nat.le_of_ble_eq_true rfl)⟩) k_preS rfl rfl hl.1 rfl (lv_room (Nat.le_of_ble_eq_true rfl)) dX4_values_3 ⟨Nat.zero_le _, Nat.zero_le _⟩) ?_
  have hJ21 : ∀ (H : Heap) (locs : List Loc), va_P D vwCl (wl ad (mF cI ad th n y) 8) H → sS (wA ad 8) s.heap H locs → ∀ ls : Array Slot, lv_has ls 5 [(0, .ref (ad 0)), (1, .int (nI c)), (2, .int v), (3, .int k)] → W p l e ({ frames := 2, cells := 0, slots := 0, locals := 43 }) s m av below meth cd H locs 0 0 Q (F0 m 21 ls [.int (bI (verB v && kindB k))]) := by
    intro H locs hP hS ls hl
    refine lv_istore (lv' := [(4, .int (bI (verB v && kindB k))), (0, .ref (ad 0)), (1, .int (nI c)), (2, .int v), (3, .int k)]) hx hb dX4_values_21 hl (by decide) rfl (fun ls hl => ?_)
    refine lv_aload_n hx hb dX4_values_23 rfl (lv_at hl 1 rfl) ?_
    refine lv_aload_n hx hb dX4_values_24 rfl (lv_at hl 1 rfl) ?_
    refine lv_iload_n hx hb dX4_values_25 rfl (lv_at hl 2 rfl) ?_
    refine k_Ri (va_runV (As := [.int (nI c)]) (rest := [.ref (ad 0)]) hF (c_X4_isCard l D cI cA ad th n y (nI c) hn) (cwV 1 hts gX4_values_X4_isCard rfl rfl rfl (by decide +kernel) ⟨(Nat.le_of_ble_eq_true rfl), (Nat.le_of_ble_eq_true rfl)⟩) (k_pre hP hK hD hT (k := 0) (by decide) mF_0 rfl) rfl rfl hl.1 rfl (lv_room (Nat.le_of_ble_eq_true rfl)) dX4_values_26 ⟨Nat.zero_le _, Nat.zero_le _⟩) ?_
    refine r_topi (show bI (cardB n (nI c)) = bI true from congrArg bI (cardB_ok hc hn)) ?_
    refine r_ifneB (b := true) (tgt := 36) hx hb dX4_values_29 (by decide) (fun _ => ?_) (fun h => absurd h (by decide))
    refine lv_iload hx hb dX4_values_36 (lv_at hl 0 rfl) ?_
    refine r_ifneB (b := verB v && kindB k) (tgt := 45) hx hb dX4_values_38 (by decide) (fun h => absurd (h.symm.trans hbad) (by decide)) (fun _ => ?_)
    refine lv_iconst (v := nI 2) hx hb dX4_values_41 (by decide) ?_
    refine lv_goto (tgt := 46) hx hb dX4_values_42 (by decide) ?_
    refine k_Wi (va_runV (As := [.int (nI 2)]) (rest := []) hF (c_X4_isFine_2 l D cI cA ad th n y) (cwV 1 hts gX4_values_X4_isFine rfl rfl rfl (by decide +kernel) ⟨(Nat.le_of_ble_eq_true rfl), (Nat.le_of_ble_eq_true rfl)⟩) (k_pre hP hK hD hT (k := 0) (by decide) mF_0 rfl) rfl rfl hl.1 rfl (lv_room (Nat.le_of_ble_eq_true rfl)) dX4_values_46 ⟨Nat.zero_le _, Nat.zero_le _⟩) hD hS (fun H locs hP hS => ?_)
    refine r_ifeqB (b := false) (tgt := 66) hx hb dX4_values_49 (by decide) (fun _ => ?_) (fun h => absurd h (by decide))
    refine lv_iconst (v := nI 0) hx hb dX4_values_66 (by decide) ?_
    exact hret _ _ _ _ _ _ hP hS dX4_values_67 (rfl) (rfl)
  refine r_topi (show bI (inB v (nI 0) (nI 2)) = bI (verB v) from congrArg bI inB_ver) ?_
  refine r_ifeqB (b := verB v) (tgt := 20) hx hb dX4_values_6 (by decide) (fun h6_4 => ?_) (fun h6_4 => ?_)
  · refine lv_iconst (v := nI 0) hx hb dX4_values_20 (by decide) ?_
    refine r_topi (show (nI 0 : Int32) = bI (verB v && kindB k) from by simp [bI, h6_4]) ?_
    exact hJ21 _ _ hP hS _ (lv_sub hl [0, 1, 2, 3] rfl)
  · refine lv_iload_n hx hb dX4_values_9 rfl (lv_at hl 3 rfl) ?_
    refine k_Ri (va_runS (As := [.int k]) (rest := []) hF (c_X4_isKind l k) (va_cwS 1 hts gX4_values_X4_isKind rfl rfl rfl (by decide +kernel) ⟨(Nat.le_of_ble_eq_true rfl), (Nat.le_of_ble_eq_true rfl)⟩) k_preS rfl rfl hl.1 rfl (lv_room (Nat.le_of_ble_eq_true rfl)) dX4_values_10 ⟨Nat.zero_le _, Nat.zero_le _⟩) ?_
    refine r_ifeqB (b := kindB k) (tgt := 20) hx hb dX4_values_13 (by decide) (fun h13_5 => ?_) (fun h13_5 => ?_)
    · refine lv_iconst (v := nI 0) hx hb dX4_values_20 (by decide) ?_
      refine r_topi (show (nI 0 : Int32) = bI (verB v && kindB k) from by simp [bI, h6_4, h13_5]) ?_
      exact hJ21 _ _ hP hS _ (lv_sub hl [0, 1, 2, 3] rfl)
    · refine lv_iconst (v := nI 1) hx hb dX4_values_16 (by decide) ?_
      refine lv_goto (tgt := 21) hx hb dX4_values_17 (by decide) ?_
      refine r_topi (show (nI 1 : Int32) = bI (verB v && kindB k) from by simp [bI, h6_4, h13_5]) ?_
      exact hJ21 _ _ hP hS _ (lv_sub hl [0, 1, 2, 3] rfl)
set_option maxHeartbeats 4000000 in
set_option maxRecDepth 100000 in
theorem m_nameOf_0 (l : Launch) (D : va_G) (cI : ClassId) (cA : ClassId) (ad : Nat → Nat) (th : Int32) (n : Nat) (y : Nat → Nat → Int32) (c : Nat) (v : Nat) (hc : c < n) (hn : n ≤ 24) (hv : v < 3) : Met l yX4_nameOf wsX4_nameOf ({ frames := 2, cells := 0, slots := 0, locals := 43 }) (va_Pc [.ref (ad 0), .int (nI c), .int (nI v)] (mX D cI cA ad th n y)) (qW D ad (mF cI ad (nI 0) n y) 8 (some (.int (y 2 (3 * c + v))))) 0 0 (wA ad 8) := by
  refine c_ofW (cc := cX4_nameOf) (maxL := 3) (ret := .int) (by decide) rfl rfl (Nat.le_of_ble_eq_true rfl) ?_
  intro p e s m av below meth cd Q hx hb hF hP hK hD hT hret ls hl
  have hown : s.vm.findClass RX4 = some m.cls := hF.2.2.2.1
  have hF : CallFix p m cd cX4_nameOf 3 s av wsX4_nameOf RX4 := hF
  have hts := hF.2.2.2.2
  have hl : lv_has ls 3 [(0, .ref (ad 0)), (1, .int (nI c)), (2, .int (nI v))] := hl
  obtain ⟨H, eH⟩ : ∃ H9 : Heap, H9 = s.heap := ⟨_, rfl⟩
  obtain ⟨locs, eL⟩ : ∃ L9 : List Loc, L9 = [] := ⟨_, rfl⟩
  have hS : sS (wA ad 8) s.heap H locs := by rw [eH, eL]; exact sS.rf
  rw [← eH] at hP
  suffices hgo : W p l e ({ frames := 2, cells := 0, slots := 0, locals := 43 }) s m av below meth cd H locs 0 0 Q (F0 m 0 ls []) by rw [eH, eL] at hgo; exact hgo
  clear eH eL
  refine lv_aload_n hx hb dX4_nameOf_0 rfl (lv_at hl 0 rfl) ?_
  refine lv_aload_n hx hb dX4_nameOf_1 rfl (lv_at hl 0 rfl) ?_
  refine lv_iload_n hx hb dX4_nameOf_2 rfl (lv_at hl 1 rfl) ?_
  refine k_Ri (va_runV (As := [.int (nI c)]) (rest := [.ref (ad 0)]) hF (c_X4_isCard l D cI cA ad th n y (nI c) hn) (cwV 1 hts gX4_nameOf_X4_isCard rfl rfl rfl (by decide +kernel) ⟨(Nat.le_of_ble_eq_true rfl), (Nat.le_of_ble_eq_true rfl)⟩) (k_pre hP hK hD hT (k := 0) (by decide) mF_0 rfl) rfl rfl hl.1 rfl (lv_room (Nat.le_of_ble_eq_true rfl)) dX4_nameOf_3 ⟨Nat.zero_le _, Nat.zero_le _⟩) ?_
  refine r_topi (show bI (cardB n (nI c)) = bI true from congrArg bI (cardB_ok hc hn)) ?_
  refine r_ifneB (b := true) (tgt := 13) hx hb dX4_nameOf_6 (by decide) (fun _ => ?_) (fun h => absurd h (by decide))
  refine lv_iload_n hx hb dX4_nameOf_13 rfl (lv_at hl 2 rfl) ?_
  refine lv_iconst (v := nI 0) hx hb dX4_nameOf_14 (by decide) ?_
  refine lv_iconst (v := nI 2) hx hb dX4_nameOf_15 (by decide) ?_
  refine k_Ri (va_runS (As := [.int (nI v), .int (nI 0), .int (nI 2)]) (rest := [.ref (ad 0)]) hF (c_X4_isIn l (nI v) (nI 0) (nI 2)) (va_cwS 3 hts gX4_nameOf_X4_isIn rfl rfl rfl (by decide +kernel) ⟨(Nat.le_of_ble_eq_true rfl), (Nat.le_of_ble_eq_true rfl)⟩) k_preS rfl rfl hl.1 rfl (lv_room (Nat.le_of_ble_eq_true rfl)) dX4_nameOf_16 ⟨Nat.zero_le _, Nat.zero_le _⟩) ?_
  refine r_topi (show bI (inB (nI v) (nI 0) (nI 2)) = bI true from congrArg bI (inB_ver.trans (verB_ok hv))) ?_
  refine r_ifneB (b := true) (tgt := 26) hx hb dX4_nameOf_19 (by decide) (fun _ => ?_) (fun h => absurd h (by decide))
  refine lv_iconst (v := nI 0) hx hb dX4_nameOf_26 (by decide) ?_
  refine k_Wi (va_runV (As := [.int (nI 0)]) (rest := []) hF (c_X4_isFine_0 l D cI cA ad th n y) (cwV 1 hts gX4_nameOf_X4_isFine rfl rfl rfl (by decide +kernel) ⟨(Nat.le_of_ble_eq_true rfl), (Nat.le_of_ble_eq_true rfl)⟩) (k_pre hP hK hD hT (k := 0) (by decide) mF_0 rfl) rfl rfl hl.1 rfl (lv_room (Nat.le_of_ble_eq_true rfl)) dX4_nameOf_27 ⟨Nat.zero_le _, Nat.zero_le _⟩) hD hS (fun H locs hP hS => ?_)
  refine r_ifeqB (b := true) (tgt := 46) hx hb dX4_nameOf_30 (by decide) (fun h => absurd h (by decide)) (fun _ => ?_)
  refine lv_aload_n hx hb dX4_nameOf_33 rfl (lv_at hl 0 rfl) ?_
  refine r_get (C := RX4) (T := TX4) (M := 9) (index := 13) (fd := "name") (fo := "[I") hx hb hts (by decide +kernel) hown hK hP 0 (by decide) mF_0 rfl 2 (by decide) rfl (by decide +kernel) rfl dX4_nameOf_34 ?_
  refine lv_iconst (v := nI 3) hx hb dX4_nameOf_37 (by decide) ?_
  refine lv_iload_n hx hb dX4_nameOf_38 rfl (lv_at hl 1 rfl) ?_
  refine r_mulN (a := 3) (b := c) (r := 3 * c) hx hb dX4_nameOf_39 (by omega) ?_
  refine lv_iload_n hx hb dX4_nameOf_40 rfl (lv_at hl 2 rfl) ?_
  refine r_addN (a := 3 * c) (b := v) (r := 3 * c + v) hx hb dX4_nameOf_41 (by omega) ?_
  refine r_iald hx hb hK hP 2 0 (by omega) mF_2 rfl (i := 3 * c + v) (by omega) (by decide) dX4_nameOf_42 ?_
  refine lv_goto (tgt := 47) hx hb dX4_nameOf_43 (by decide) ?_
  exact hret _ _ _ _ _ _ hP hS dX4_nameOf_47 (rfl) (rfl)
set_option maxHeartbeats 4000000 in
set_option maxRecDepth 100000 in
theorem m_nameOf_1 (l : Launch) (D : va_G) (cI : ClassId) (cA : ClassId) (ad : Nat → Nat) (th : Int32) (n : Nat) (y : Nat → Nat → Int32) (a : Int32) (v : Int32) (hca : cardB n a = false) (hn : n ≤ 24) : Met l yX4_nameOf wsX4_nameOf ({ frames := 2, cells := 0, slots := 0, locals := 43 }) (va_Pc [.ref (ad 0), .int a, .int v] (mX D cI cA ad th n y)) (qW D ad (mF cI ad (nI 1) n y) 8 (some (.int (nI 0)))) 0 0 (wA ad 8) := by
  refine c_ofW (cc := cX4_nameOf) (maxL := 3) (ret := .int) (by decide) rfl rfl (Nat.le_of_ble_eq_true rfl) ?_
  intro p e s m av below meth cd Q hx hb hF hP hK hD hT hret ls hl
  have hown : s.vm.findClass RX4 = some m.cls := hF.2.2.2.1
  have hF : CallFix p m cd cX4_nameOf 3 s av wsX4_nameOf RX4 := hF
  have hts := hF.2.2.2.2
  have hl : lv_has ls 3 [(0, .ref (ad 0)), (1, .int a), (2, .int v)] := hl
  obtain ⟨H, eH⟩ : ∃ H9 : Heap, H9 = s.heap := ⟨_, rfl⟩
  obtain ⟨locs, eL⟩ : ∃ L9 : List Loc, L9 = [] := ⟨_, rfl⟩
  have hS : sS (wA ad 8) s.heap H locs := by rw [eH, eL]; exact sS.rf
  rw [← eH] at hP
  suffices hgo : W p l e ({ frames := 2, cells := 0, slots := 0, locals := 43 }) s m av below meth cd H locs 0 0 Q (F0 m 0 ls []) by rw [eH, eL] at hgo; exact hgo
  clear eH eL
  refine lv_aload_n hx hb dX4_nameOf_0 rfl (lv_at hl 0 rfl) ?_
  refine lv_aload_n hx hb dX4_nameOf_1 rfl (lv_at hl 0 rfl) ?_
  refine lv_iload_n hx hb dX4_nameOf_2 rfl (lv_at hl 1 rfl) ?_
  refine k_Ri (va_runV (As := [.int a]) (rest := [.ref (ad 0)]) hF (c_X4_isCard l D cI cA ad th n y a hn) (cwV 1 hts gX4_nameOf_X4_isCard rfl rfl rfl (by decide +kernel) ⟨(Nat.le_of_ble_eq_true rfl), (Nat.le_of_ble_eq_true rfl)⟩) (k_pre hP hK hD hT (k := 0) (by decide) mF_0 rfl) rfl rfl hl.1 rfl (lv_room (Nat.le_of_ble_eq_true rfl)) dX4_nameOf_3 ⟨Nat.zero_le _, Nat.zero_le _⟩) ?_
  refine r_topi (show bI (cardB n a) = bI false from congrArg bI (hca)) ?_
  refine r_ifneB (b := false) (tgt := 13) hx hb dX4_nameOf_6 (by decide) (fun h => absurd h (by decide)) (fun _ => ?_)
  refine lv_iconst (v := nI 1) hx hb dX4_nameOf_9 (by decide) ?_
  refine lv_goto (tgt := 27) hx hb dX4_nameOf_10 (by decide) ?_
  refine k_Wi (va_runV (As := [.int (nI 1)]) (rest := []) hF (c_X4_isFine_1 l D cI cA ad th n y) (cwV 1 hts gX4_nameOf_X4_isFine rfl rfl rfl (by decide +kernel) ⟨(Nat.le_of_ble_eq_true rfl), (Nat.le_of_ble_eq_true rfl)⟩) (k_pre hP hK hD hT (k := 0) (by decide) mF_0 rfl) rfl rfl hl.1 rfl (lv_room (Nat.le_of_ble_eq_true rfl)) dX4_nameOf_27 ⟨Nat.zero_le _, Nat.zero_le _⟩) hD hS (fun H locs hP hS => ?_)
  refine r_ifeqB (b := false) (tgt := 46) hx hb dX4_nameOf_30 (by decide) (fun _ => ?_) (fun h => absurd h (by decide))
  refine lv_iconst (v := nI 0) hx hb dX4_nameOf_46 (by decide) ?_
  exact hret _ _ _ _ _ _ hP hS dX4_nameOf_47 (rfl) (rfl)
set_option maxHeartbeats 4000000 in
set_option maxRecDepth 100000 in
theorem m_nameOf_2 (l : Launch) (D : va_G) (cI : ClassId) (cA : ClassId) (ad : Nat → Nat) (th : Int32) (n : Nat) (y : Nat → Nat → Int32) (c : Nat) (v : Int32) (hc : c < n) (hn : n ≤ 24) (hbad : (verB v) = false) : Met l yX4_nameOf wsX4_nameOf ({ frames := 2, cells := 0, slots := 0, locals := 43 }) (va_Pc [.ref (ad 0), .int (nI c), .int v] (mX D cI cA ad th n y)) (qW D ad (mF cI ad (nI 2) n y) 8 (some (.int (nI 0)))) 0 0 (wA ad 8) := by
  refine c_ofW (cc := cX4_nameOf) (maxL := 3) (ret := .int) (by decide) rfl rfl (Nat.le_of_ble_eq_true rfl) ?_
  intro p e s m av below meth cd Q hx hb hF hP hK hD hT hret ls hl
  have hown : s.vm.findClass RX4 = some m.cls := hF.2.2.2.1
  have hF : CallFix p m cd cX4_nameOf 3 s av wsX4_nameOf RX4 := hF
  have hts := hF.2.2.2.2
  have hl : lv_has ls 3 [(0, .ref (ad 0)), (1, .int (nI c)), (2, .int v)] := hl
  obtain ⟨H, eH⟩ : ∃ H9 : Heap, H9 = s.heap := ⟨_, rfl⟩
  obtain ⟨locs, eL⟩ : ∃ L9 : List Loc, L9 = [] := ⟨_, rfl⟩
  have hS : sS (wA ad 8) s.heap H locs := by rw [eH, eL]; exact sS.rf
  rw [← eH] at hP
  suffices hgo : W p l e ({ frames := 2, cells := 0, slots := 0, locals := 43 }) s m av below meth cd H locs 0 0 Q (F0 m 0 ls []) by rw [eH, eL] at hgo; exact hgo
  clear eH eL
  refine lv_aload_n hx hb dX4_nameOf_0 rfl (lv_at hl 0 rfl) ?_
  refine lv_aload_n hx hb dX4_nameOf_1 rfl (lv_at hl 0 rfl) ?_
  refine lv_iload_n hx hb dX4_nameOf_2 rfl (lv_at hl 1 rfl) ?_
  refine k_Ri (va_runV (As := [.int (nI c)]) (rest := [.ref (ad 0)]) hF (c_X4_isCard l D cI cA ad th n y (nI c) hn) (cwV 1 hts gX4_nameOf_X4_isCard rfl rfl rfl (by decide +kernel) ⟨(Nat.le_of_ble_eq_true rfl), (Nat.le_of_ble_eq_true rfl)⟩) (k_pre hP hK hD hT (k := 0) (by decide) mF_0 rfl) rfl rfl hl.1 rfl (lv_room (Nat.le_of_ble_eq_true rfl)) dX4_nameOf_3 ⟨Nat.zero_le _, Nat.zero_le _⟩) ?_
  refine r_topi (show bI (cardB n (nI c)) = bI true from congrArg bI (cardB_ok hc hn)) ?_
  refine r_ifneB (b := true) (tgt := 13) hx hb dX4_nameOf_6 (by decide) (fun _ => ?_) (fun h => absurd h (by decide))
  refine lv_iload_n hx hb dX4_nameOf_13 rfl (lv_at hl 2 rfl) ?_
  refine lv_iconst (v := nI 0) hx hb dX4_nameOf_14 (by decide) ?_
  refine lv_iconst (v := nI 2) hx hb dX4_nameOf_15 (by decide) ?_
  refine k_Ri (va_runS (As := [.int v, .int (nI 0), .int (nI 2)]) (rest := [.ref (ad 0)]) hF (c_X4_isIn l v (nI 0) (nI 2)) (va_cwS 3 hts gX4_nameOf_X4_isIn rfl rfl rfl (by decide +kernel) ⟨(Nat.le_of_ble_eq_true rfl), (Nat.le_of_ble_eq_true rfl)⟩) k_preS rfl rfl hl.1 rfl (lv_room (Nat.le_of_ble_eq_true rfl)) dX4_nameOf_16 ⟨Nat.zero_le _, Nat.zero_le _⟩) ?_
  refine r_topi (show bI (inB v (nI 0) (nI 2)) = bI false from congrArg bI (inB_ver.trans hbad)) ?_
  refine r_ifneB (b := false) (tgt := 26) hx hb dX4_nameOf_19 (by decide) (fun h => absurd h (by decide)) (fun _ => ?_)
  refine lv_iconst (v := nI 2) hx hb dX4_nameOf_22 (by decide) ?_
  refine lv_goto (tgt := 27) hx hb dX4_nameOf_23 (by decide) ?_
  refine k_Wi (va_runV (As := [.int (nI 2)]) (rest := []) hF (c_X4_isFine_2 l D cI cA ad th n y) (cwV 1 hts gX4_nameOf_X4_isFine rfl rfl rfl (by decide +kernel) ⟨(Nat.le_of_ble_eq_true rfl), (Nat.le_of_ble_eq_true rfl)⟩) (k_pre hP hK hD hT (k := 0) (by decide) mF_0 rfl) rfl rfl hl.1 rfl (lv_room (Nat.le_of_ble_eq_true rfl)) dX4_nameOf_27 ⟨Nat.zero_le _, Nat.zero_le _⟩) hD hS (fun H locs hP hS => ?_)
  refine r_ifeqB (b := false) (tgt := 46) hx hb dX4_nameOf_30 (by decide) (fun _ => ?_) (fun h => absurd h (by decide))
  refine lv_iconst (v := nI 0) hx hb dX4_nameOf_46 (by decide) ?_
  exact hret _ _ _ _ _ _ hP hS dX4_nameOf_47 (rfl) (rfl)
set_option maxHeartbeats 4000000 in
set_option maxRecDepth 100000 in
theorem m_merged_0 (l : Launch) (D : va_G) (cI : ClassId) (cA : ClassId) (ad : Nat → Nat) (th : Int32) (n : Nat) (y : Nat → Nat → Int32) (c : Nat) (k : Nat) (hc : c < n) (hn : n ≤ 24) (hk : k < 2) : Met l yX4_merged wsX4_merged ({ frames := 2, cells := 0, slots := 0, locals := 46 }) (va_Pc [.ref (ad 0), .int (nI c), .int (nI k)] (mX D cI cA ad th n y)) (qW D ad (mF cI ad (nI 0) n y) 8 (some (.int (mSt y c k)))) 0 0 (wA ad 8) := by
  refine c_ofW (cc := cX4_merged) (maxL := 3) (ret := .int) (by decide) rfl rfl (Nat.le_of_ble_eq_true rfl) ?_
  intro p e s m av below meth cd Q hx hb hF hP hK hD hT hret ls hl
  have hown : s.vm.findClass RX4 = some m.cls := hF.2.2.2.1
  have hF : CallFix p m cd cX4_merged 3 s av wsX4_merged RX4 := hF
  have hts := hF.2.2.2.2
  have hl : lv_has ls 3 [(0, .ref (ad 0)), (1, .int (nI c)), (2, .int (nI k))] := hl
  obtain ⟨H, eH⟩ : ∃ H9 : Heap, H9 = s.heap := ⟨_, rfl⟩
  obtain ⟨locs, eL⟩ : ∃ L9 : List Loc, L9 = [] := ⟨_, rfl⟩
  have hS : sS (wA ad 8) s.heap H locs := by rw [eH, eL]; exact sS.rf
  rw [← eH] at hP
  suffices hgo : W p l e ({ frames := 2, cells := 0, slots := 0, locals := 46 }) s m av below meth cd H locs 0 0 Q (F0 m 0 ls []) by rw [eH, eL] at hgo; exact hgo
  clear eH eL
  refine lv_aload_n hx hb dX4_merged_0 rfl (lv_at hl 0 rfl) ?_
  refine lv_aload_n hx hb dX4_merged_1 rfl (lv_at hl 0 rfl) ?_
  refine lv_iload_n hx hb dX4_merged_2 rfl (lv_at hl 1 rfl) ?_
  refine k_Ri (va_runV (As := [.int (nI c)]) (rest := [.ref (ad 0)]) hF (c_X4_isCard l D cI cA ad th n y (nI c) hn) (cwV 1 hts gX4_merged_X4_isCard rfl rfl rfl (by decide +kernel) ⟨(Nat.le_of_ble_eq_true rfl), (Nat.le_of_ble_eq_true rfl)⟩) (k_pre hP hK hD hT (k := 0) (by decide) mF_0 rfl) rfl rfl hl.1 rfl (lv_room (Nat.le_of_ble_eq_true rfl)) dX4_merged_3 ⟨Nat.zero_le _, Nat.zero_le _⟩) ?_
  refine r_topi (show bI (cardB n (nI c)) = bI true from congrArg bI (cardB_ok hc hn)) ?_
  refine r_ifneB (b := true) (tgt := 13) hx hb dX4_merged_6 (by decide) (fun _ => ?_) (fun h => absurd h (by decide))
  refine lv_iload_n hx hb dX4_merged_13 rfl (lv_at hl 2 rfl) ?_
  refine k_Ri (va_runS (As := [.int (nI k)]) (rest := [.ref (ad 0)]) hF (c_X4_isKind l (nI k)) (va_cwS 1 hts gX4_merged_X4_isKind rfl rfl rfl (by decide +kernel) ⟨(Nat.le_of_ble_eq_true rfl), (Nat.le_of_ble_eq_true rfl)⟩) k_preS rfl rfl hl.1 rfl (lv_room (Nat.le_of_ble_eq_true rfl)) dX4_merged_14 ⟨Nat.zero_le _, Nat.zero_le _⟩) ?_
  refine r_topi (show bI (kindB (nI k)) = bI true from congrArg bI (kindB_ok hk)) ?_
  refine r_ifneB (b := true) (tgt := 24) hx hb dX4_merged_17 (by decide) (fun _ => ?_) (fun h => absurd h (by decide))
  refine lv_iconst (v := nI 0) hx hb dX4_merged_24 (by decide) ?_
  refine k_Wi (va_runV (As := [.int (nI 0)]) (rest := []) hF (c_X4_isFine_0 l D cI cA ad th n y) (cwV 1 hts gX4_merged_X4_isFine rfl rfl rfl (by decide +kernel) ⟨(Nat.le_of_ble_eq_true rfl), (Nat.le_of_ble_eq_true rfl)⟩) (k_pre hP hK hD hT (k := 0) (by decide) mF_0 rfl) rfl rfl hl.1 rfl (lv_room (Nat.le_of_ble_eq_true rfl)) dX4_merged_25 ⟨Nat.zero_le _, Nat.zero_le _⟩) hD hS (fun H locs hP hS => ?_)
  refine r_ifeqB (b := true) (tgt := 40) hx hb dX4_merged_28 (by decide) (fun h => absurd h (by decide)) (fun _ => ?_)
  refine lv_aload_n hx hb dX4_merged_31 rfl (lv_at hl 0 rfl) ?_
  refine lv_iload_n hx hb dX4_merged_32 rfl (lv_at hl 1 rfl) ?_
  refine lv_iload_n hx hb dX4_merged_33 rfl (lv_at hl 2 rfl) ?_
  refine k_Ri (va_runV (As := [.int (nI c), .int (nI k)]) (rest := []) hF (c_X4_mergedOf l D cI cA ad (nI 0) n y c k (by omega) hk) (cwV 2 hts gX4_merged_X4_mergedOf rfl rfl rfl (by decide +kernel) ⟨(Nat.le_of_ble_eq_true rfl), (Nat.le_of_ble_eq_true rfl)⟩) (k_pre hP hK hD hT (k := 0) (by decide) mF_0 rfl) rfl rfl hl.1 rfl (lv_room (Nat.le_of_ble_eq_true rfl)) dX4_merged_34 ⟨Nat.zero_le _, Nat.zero_le _⟩) ?_
  refine lv_goto (tgt := 41) hx hb dX4_merged_37 (by decide) ?_
  exact hret _ _ _ _ _ _ hP hS dX4_merged_41 (rfl) (rfl)
set_option maxHeartbeats 4000000 in
set_option maxRecDepth 100000 in
theorem m_merged_1 (l : Launch) (D : va_G) (cI : ClassId) (cA : ClassId) (ad : Nat → Nat) (th : Int32) (n : Nat) (y : Nat → Nat → Int32) (a : Int32) (k : Int32) (hca : cardB n a = false) (hn : n ≤ 24) : Met l yX4_merged wsX4_merged ({ frames := 2, cells := 0, slots := 0, locals := 43 }) (va_Pc [.ref (ad 0), .int a, .int k] (mX D cI cA ad th n y)) (qW D ad (mF cI ad (nI 1) n y) 8 (some (.int (nI 0)))) 0 0 (wA ad 8) := by
  refine c_ofW (cc := cX4_merged) (maxL := 3) (ret := .int) (by decide) rfl rfl (Nat.le_of_ble_eq_true rfl) ?_
  intro p e s m av below meth cd Q hx hb hF hP hK hD hT hret ls hl
  have hown : s.vm.findClass RX4 = some m.cls := hF.2.2.2.1
  have hF : CallFix p m cd cX4_merged 3 s av wsX4_merged RX4 := hF
  have hts := hF.2.2.2.2
  have hl : lv_has ls 3 [(0, .ref (ad 0)), (1, .int a), (2, .int k)] := hl
  obtain ⟨H, eH⟩ : ∃ H9 : Heap, H9 = s.heap := ⟨_, rfl⟩
  obtain ⟨locs, eL⟩ : ∃ L9 : List Loc, L9 = [] := ⟨_, rfl⟩
  have hS : sS (wA ad 8) s.heap H locs := by rw [eH, eL]; exact sS.rf
  rw [← eH] at hP
  suffices hgo : W p l e ({ frames := 2, cells := 0, slots := 0, locals := 43 }) s m av below meth cd H locs 0 0 Q (F0 m 0 ls []) by rw [eH, eL] at hgo; exact hgo
  clear eH eL
  refine lv_aload_n hx hb dX4_merged_0 rfl (lv_at hl 0 rfl) ?_
  refine lv_aload_n hx hb dX4_merged_1 rfl (lv_at hl 0 rfl) ?_
  refine lv_iload_n hx hb dX4_merged_2 rfl (lv_at hl 1 rfl) ?_
  refine k_Ri (va_runV (As := [.int a]) (rest := [.ref (ad 0)]) hF (c_X4_isCard l D cI cA ad th n y a hn) (cwV 1 hts gX4_merged_X4_isCard rfl rfl rfl (by decide +kernel) ⟨(Nat.le_of_ble_eq_true rfl), (Nat.le_of_ble_eq_true rfl)⟩) (k_pre hP hK hD hT (k := 0) (by decide) mF_0 rfl) rfl rfl hl.1 rfl (lv_room (Nat.le_of_ble_eq_true rfl)) dX4_merged_3 ⟨Nat.zero_le _, Nat.zero_le _⟩) ?_
  refine r_topi (show bI (cardB n a) = bI false from congrArg bI (hca)) ?_
  refine r_ifneB (b := false) (tgt := 13) hx hb dX4_merged_6 (by decide) (fun h => absurd h (by decide)) (fun _ => ?_)
  refine lv_iconst (v := nI 1) hx hb dX4_merged_9 (by decide) ?_
  refine lv_goto (tgt := 25) hx hb dX4_merged_10 (by decide) ?_
  refine k_Wi (va_runV (As := [.int (nI 1)]) (rest := []) hF (c_X4_isFine_1 l D cI cA ad th n y) (cwV 1 hts gX4_merged_X4_isFine rfl rfl rfl (by decide +kernel) ⟨(Nat.le_of_ble_eq_true rfl), (Nat.le_of_ble_eq_true rfl)⟩) (k_pre hP hK hD hT (k := 0) (by decide) mF_0 rfl) rfl rfl hl.1 rfl (lv_room (Nat.le_of_ble_eq_true rfl)) dX4_merged_25 ⟨Nat.zero_le _, Nat.zero_le _⟩) hD hS (fun H locs hP hS => ?_)
  refine r_ifeqB (b := false) (tgt := 40) hx hb dX4_merged_28 (by decide) (fun _ => ?_) (fun h => absurd h (by decide))
  refine lv_iconst (v := nI 0) hx hb dX4_merged_40 (by decide) ?_
  exact hret _ _ _ _ _ _ hP hS dX4_merged_41 (rfl) (rfl)
set_option maxHeartbeats 4000000 in
set_option maxRecDepth 100000 in
theorem m_merged_2 (l : Launch) (D : va_G) (cI : ClassId) (cA : ClassId) (ad : Nat → Nat) (th : Int32) (n : Nat) (y : Nat → Nat → Int32) (c : Nat) (k : Int32) (hc : c < n) (hn : n ≤ 24) (hbad : (kindB k) = false) : Met l yX4_merged wsX4_merged ({ frames := 2, cells := 0, slots := 0, locals := 43 }) (va_Pc [.ref (ad 0), .int (nI c), .int k] (mX D cI cA ad th n y)) (qW D ad (mF cI ad (nI 2) n y) 8 (some (.int (nI 0)))) 0 0 (wA ad 8) := by
  refine c_ofW (cc := cX4_merged) (maxL := 3) (ret := .int) (by decide) rfl rfl (Nat.le_of_ble_eq_true rfl) ?_
  intro p e s m av below meth cd Q hx hb hF hP hK hD hT hret ls hl
  have hown : s.vm.findClass RX4 = some m.cls := hF.2.2.2.1
  have hF : CallFix p m cd cX4_merged 3 s av wsX4_merged RX4 := hF
  have hts := hF.2.2.2.2
  have hl : lv_has ls 3 [(0, .ref (ad 0)), (1, .int (nI c)), (2, .int k)] := hl
  obtain ⟨H, eH⟩ : ∃ H9 : Heap, H9 = s.heap := ⟨_, rfl⟩
  obtain ⟨locs, eL⟩ : ∃ L9 : List Loc, L9 = [] := ⟨_, rfl⟩
  have hS : sS (wA ad 8) s.heap H locs := by rw [eH, eL]; exact sS.rf
  rw [← eH] at hP
  suffices hgo : W p l e ({ frames := 2, cells := 0, slots := 0, locals := 43 }) s m av below meth cd H locs 0 0 Q (F0 m 0 ls []) by rw [eH, eL] at hgo; exact hgo
  clear eH eL
  refine lv_aload_n hx hb dX4_merged_0 rfl (lv_at hl 0 rfl) ?_
  refine lv_aload_n hx hb dX4_merged_1 rfl (lv_at hl 0 rfl) ?_
  refine lv_iload_n hx hb dX4_merged_2 rfl (lv_at hl 1 rfl) ?_
  refine k_Ri (va_runV (As := [.int (nI c)]) (rest := [.ref (ad 0)]) hF (c_X4_isCard l D cI cA ad th n y (nI c) hn) (cwV 1 hts gX4_merged_X4_isCard rfl rfl rfl (by decide +kernel) ⟨(Nat.le_of_ble_eq_true rfl), (Nat.le_of_ble_eq_true rfl)⟩) (k_pre hP hK hD hT (k := 0) (by decide) mF_0 rfl) rfl rfl hl.1 rfl (lv_room (Nat.le_of_ble_eq_true rfl)) dX4_merged_3 ⟨Nat.zero_le _, Nat.zero_le _⟩) ?_
  refine r_topi (show bI (cardB n (nI c)) = bI true from congrArg bI (cardB_ok hc hn)) ?_
  refine r_ifneB (b := true) (tgt := 13) hx hb dX4_merged_6 (by decide) (fun _ => ?_) (fun h => absurd h (by decide))
  refine lv_iload_n hx hb dX4_merged_13 rfl (lv_at hl 2 rfl) ?_
  refine k_Ri (va_runS (As := [.int k]) (rest := [.ref (ad 0)]) hF (c_X4_isKind l k) (va_cwS 1 hts gX4_merged_X4_isKind rfl rfl rfl (by decide +kernel) ⟨(Nat.le_of_ble_eq_true rfl), (Nat.le_of_ble_eq_true rfl)⟩) k_preS rfl rfl hl.1 rfl (lv_room (Nat.le_of_ble_eq_true rfl)) dX4_merged_14 ⟨Nat.zero_le _, Nat.zero_le _⟩) ?_
  refine r_topi (show bI (kindB k) = bI false from congrArg bI (hbad)) ?_
  refine r_ifneB (b := false) (tgt := 24) hx hb dX4_merged_17 (by decide) (fun h => absurd h (by decide)) (fun _ => ?_)
  refine lv_iconst (v := nI 2) hx hb dX4_merged_20 (by decide) ?_
  refine lv_goto (tgt := 25) hx hb dX4_merged_21 (by decide) ?_
  refine k_Wi (va_runV (As := [.int (nI 2)]) (rest := []) hF (c_X4_isFine_2 l D cI cA ad th n y) (cwV 1 hts gX4_merged_X4_isFine rfl rfl rfl (by decide +kernel) ⟨(Nat.le_of_ble_eq_true rfl), (Nat.le_of_ble_eq_true rfl)⟩) (k_pre hP hK hD hT (k := 0) (by decide) mF_0 rfl) rfl rfl hl.1 rfl (lv_room (Nat.le_of_ble_eq_true rfl)) dX4_merged_25 ⟨Nat.zero_le _, Nat.zero_le _⟩) hD hS (fun H locs hP hS => ?_)
  refine r_ifeqB (b := false) (tgt := 40) hx hb dX4_merged_28 (by decide) (fun _ => ?_) (fun h => absurd h (by decide))
  refine lv_iconst (v := nI 0) hx hb dX4_merged_40 (by decide) ?_
  exact hret _ _ _ _ _ _ hP hS dX4_merged_41 (rfl) (rfl)
set_option maxHeartbeats 4000000 in
set_option maxRecDepth 100000 in
theorem m_mergedByValues_0 (l : Launch) (D : va_G) (cI : ClassId) (cA : ClassId) (ad : Nat → Nat) (th : Int32) (n : Nat) (y : Nat → Nat → Int32) (c : Nat) (k : Nat) (hc : c < n) (hn : n ≤ 24) (hk : k < 2) : Met l yX4_mergedByValues wsX4_mergedByValues ({ frames := 2, cells := 0, slots := 0, locals := 46 }) (va_Pc [.ref (ad 0), .int (nI c), .int (nI k)] (mX D cI cA ad th n y)) (qW D ad (mF cI ad (nI 0) n y) 8 (some (.int (mSt y c k)))) 0 0 (wA ad 8) := by
  refine c_ofW (cc := cX4_mergedByValues) (maxL := 3) (ret := .int) (by decide) rfl rfl (Nat.le_of_ble_eq_true rfl) ?_
  intro p e s m av below meth cd Q hx hb hF hP hK hD hT hret ls hl
  have hown : s.vm.findClass RX4 = some m.cls := hF.2.2.2.1
  have hF : CallFix p m cd cX4_mergedByValues 3 s av wsX4_mergedByValues RX4 := hF
  have hts := hF.2.2.2.2
  have hl : lv_has ls 3 [(0, .ref (ad 0)), (1, .int (nI c)), (2, .int (nI k))] := hl
  obtain ⟨H, eH⟩ : ∃ H9 : Heap, H9 = s.heap := ⟨_, rfl⟩
  obtain ⟨locs, eL⟩ : ∃ L9 : List Loc, L9 = [] := ⟨_, rfl⟩
  have hS : sS (wA ad 8) s.heap H locs := by rw [eH, eL]; exact sS.rf
  rw [← eH] at hP
  suffices hgo : W p l e ({ frames := 2, cells := 0, slots := 0, locals := 46 }) s m av below meth cd H locs 0 0 Q (F0 m 0 ls []) by rw [eH, eL] at hgo; exact hgo
  clear eH eL
  refine lv_aload_n hx hb dX4_mergedByValues_0 rfl (lv_at hl 0 rfl) ?_
  refine lv_aload_n hx hb dX4_mergedByValues_1 rfl (lv_at hl 0 rfl) ?_
  refine lv_iload_n hx hb dX4_mergedByValues_2 rfl (lv_at hl 1 rfl) ?_
  refine k_Ri (va_runV (As := [.int (nI c)]) (rest := [.ref (ad 0)]) hF (c_X4_isCard l D cI cA ad th n y (nI c) hn) (cwV 1 hts gX4_mergedByValues_X4_isCard rfl rfl rfl (by decide +kernel) ⟨(Nat.le_of_ble_eq_true rfl), (Nat.le_of_ble_eq_true rfl)⟩) (k_pre hP hK hD hT (k := 0) (by decide) mF_0 rfl) rfl rfl hl.1 rfl (lv_room (Nat.le_of_ble_eq_true rfl)) dX4_mergedByValues_3 ⟨Nat.zero_le _, Nat.zero_le _⟩) ?_
  refine r_topi (show bI (cardB n (nI c)) = bI true from congrArg bI (cardB_ok hc hn)) ?_
  refine r_ifneB (b := true) (tgt := 13) hx hb dX4_mergedByValues_6 (by decide) (fun _ => ?_) (fun h => absurd h (by decide))
  refine lv_iload_n hx hb dX4_mergedByValues_13 rfl (lv_at hl 2 rfl) ?_
  refine k_Ri (va_runS (As := [.int (nI k)]) (rest := [.ref (ad 0)]) hF (c_X4_isKind l (nI k)) (va_cwS 1 hts gX4_mergedByValues_X4_isKind rfl rfl rfl (by decide +kernel) ⟨(Nat.le_of_ble_eq_true rfl), (Nat.le_of_ble_eq_true rfl)⟩) k_preS rfl rfl hl.1 rfl (lv_room (Nat.le_of_ble_eq_true rfl)) dX4_mergedByValues_14 ⟨Nat.zero_le _, Nat.zero_le _⟩) ?_
  refine r_topi (show bI (kindB (nI k)) = bI true from congrArg bI (kindB_ok hk)) ?_
  refine r_ifneB (b := true) (tgt := 24) hx hb dX4_mergedByValues_17 (by decide) (fun _ => ?_) (fun h => absurd h (by decide))
  refine lv_iconst (v := nI 0) hx hb dX4_mergedByValues_24 (by decide) ?_
  refine k_Wi (va_runV (As := [.int (nI 0)]) (rest := []) hF (c_X4_isFine_0 l D cI cA ad th n y) (cwV 1 hts gX4_mergedByValues_X4_isFine rfl rfl rfl (by decide +kernel) ⟨(Nat.le_of_ble_eq_true rfl), (Nat.le_of_ble_eq_true rfl)⟩) (k_pre hP hK hD hT (k := 0) (by decide) mF_0 rfl) rfl rfl hl.1 rfl (lv_room (Nat.le_of_ble_eq_true rfl)) dX4_mergedByValues_25 ⟨Nat.zero_le _, Nat.zero_le _⟩) hD hS (fun H locs hP hS => ?_)
  refine r_ifeqB (b := true) (tgt := 40) hx hb dX4_mergedByValues_28 (by decide) (fun h => absurd h (by decide)) (fun _ => ?_)
  refine lv_aload_n hx hb dX4_mergedByValues_31 rfl (lv_at hl 0 rfl) ?_
  refine lv_iload_n hx hb dX4_mergedByValues_32 rfl (lv_at hl 1 rfl) ?_
  refine lv_iload_n hx hb dX4_mergedByValues_33 rfl (lv_at hl 2 rfl) ?_
  refine k_Ri (va_runV (As := [.int (nI c), .int (nI k)]) (rest := []) hF (c_X4_mergedOf l D cI cA ad (nI 0) n y c k (by omega) hk) (cwV 2 hts gX4_mergedByValues_X4_mergedOf rfl rfl rfl (by decide +kernel) ⟨(Nat.le_of_ble_eq_true rfl), (Nat.le_of_ble_eq_true rfl)⟩) (k_pre hP hK hD hT (k := 0) (by decide) mF_0 rfl) rfl rfl hl.1 rfl (lv_room (Nat.le_of_ble_eq_true rfl)) dX4_mergedByValues_34 ⟨Nat.zero_le _, Nat.zero_le _⟩) ?_
  refine lv_goto (tgt := 41) hx hb dX4_mergedByValues_37 (by decide) ?_
  exact hret _ _ _ _ _ _ hP hS dX4_mergedByValues_41 (rfl) (rfl)
set_option maxHeartbeats 4000000 in
set_option maxRecDepth 100000 in
theorem m_mergedByValues_1 (l : Launch) (D : va_G) (cI : ClassId) (cA : ClassId) (ad : Nat → Nat) (th : Int32) (n : Nat) (y : Nat → Nat → Int32) (a : Int32) (k : Int32) (hca : cardB n a = false) (hn : n ≤ 24) : Met l yX4_mergedByValues wsX4_mergedByValues ({ frames := 2, cells := 0, slots := 0, locals := 43 }) (va_Pc [.ref (ad 0), .int a, .int k] (mX D cI cA ad th n y)) (qW D ad (mF cI ad (nI 1) n y) 8 (some (.int (nI 0)))) 0 0 (wA ad 8) := by
  refine c_ofW (cc := cX4_mergedByValues) (maxL := 3) (ret := .int) (by decide) rfl rfl (Nat.le_of_ble_eq_true rfl) ?_
  intro p e s m av below meth cd Q hx hb hF hP hK hD hT hret ls hl
  have hown : s.vm.findClass RX4 = some m.cls := hF.2.2.2.1
  have hF : CallFix p m cd cX4_mergedByValues 3 s av wsX4_mergedByValues RX4 := hF
  have hts := hF.2.2.2.2
  have hl : lv_has ls 3 [(0, .ref (ad 0)), (1, .int a), (2, .int k)] := hl
  obtain ⟨H, eH⟩ : ∃ H9 : Heap, H9 = s.heap := ⟨_, rfl⟩
  obtain ⟨locs, eL⟩ : ∃ L9 : List Loc, L9 = [] := ⟨_, rfl⟩
  have hS : sS (wA ad 8) s.heap H locs := by rw [eH, eL]; exact sS.rf
  rw [← eH] at hP
  suffices hgo : W p l e ({ frames := 2, cells := 0, slots := 0, locals := 43 }) s m av below meth cd H locs 0 0 Q (F0 m 0 ls []) by rw [eH, eL] at hgo; exact hgo
  clear eH eL
  refine lv_aload_n hx hb dX4_mergedByValues_0 rfl (lv_at hl 0 rfl) ?_
  refine lv_aload_n hx hb dX4_mergedByValues_1 rfl (lv_at hl 0 rfl) ?_
  refine lv_iload_n hx hb dX4_mergedByValues_2 rfl (lv_at hl 1 rfl) ?_
  refine k_Ri (va_runV (As := [.int a]) (rest := [.ref (ad 0)]) hF (c_X4_isCard l D cI cA ad th n y a hn) (cwV 1 hts gX4_mergedByValues_X4_isCard rfl rfl rfl (by decide +kernel) ⟨(Nat.le_of_ble_eq_true rfl), (Nat.le_of_ble_eq_true rfl)⟩) (k_pre hP hK hD hT (k := 0) (by decide) mF_0 rfl) rfl rfl hl.1 rfl (lv_room (Nat.le_of_ble_eq_true rfl)) dX4_mergedByValues_3 ⟨Nat.zero_le _, Nat.zero_le _⟩) ?_
  refine r_topi (show bI (cardB n a) = bI false from congrArg bI (hca)) ?_
  refine r_ifneB (b := false) (tgt := 13) hx hb dX4_mergedByValues_6 (by decide) (fun h => absurd h (by decide)) (fun _ => ?_)
  refine lv_iconst (v := nI 1) hx hb dX4_mergedByValues_9 (by decide) ?_
  refine lv_goto (tgt := 25) hx hb dX4_mergedByValues_10 (by decide) ?_
  refine k_Wi (va_runV (As := [.int (nI 1)]) (rest := []) hF (c_X4_isFine_1 l D cI cA ad th n y) (cwV 1 hts gX4_mergedByValues_X4_isFine rfl rfl rfl (by decide +kernel) ⟨(Nat.le_of_ble_eq_true rfl), (Nat.le_of_ble_eq_true rfl)⟩) (k_pre hP hK hD hT (k := 0) (by decide) mF_0 rfl) rfl rfl hl.1 rfl (lv_room (Nat.le_of_ble_eq_true rfl)) dX4_mergedByValues_25 ⟨Nat.zero_le _, Nat.zero_le _⟩) hD hS (fun H locs hP hS => ?_)
  refine r_ifeqB (b := false) (tgt := 40) hx hb dX4_mergedByValues_28 (by decide) (fun _ => ?_) (fun h => absurd h (by decide))
  refine lv_iconst (v := nI 0) hx hb dX4_mergedByValues_40 (by decide) ?_
  exact hret _ _ _ _ _ _ hP hS dX4_mergedByValues_41 (rfl) (rfl)
set_option maxHeartbeats 4000000 in
set_option maxRecDepth 100000 in
theorem m_mergedByValues_2 (l : Launch) (D : va_G) (cI : ClassId) (cA : ClassId) (ad : Nat → Nat) (th : Int32) (n : Nat) (y : Nat → Nat → Int32) (c : Nat) (k : Int32) (hc : c < n) (hn : n ≤ 24) (hbad : (kindB k) = false) : Met l yX4_mergedByValues wsX4_mergedByValues ({ frames := 2, cells := 0, slots := 0, locals := 43 }) (va_Pc [.ref (ad 0), .int (nI c), .int k] (mX D cI cA ad th n y)) (qW D ad (mF cI ad (nI 2) n y) 8 (some (.int (nI 0)))) 0 0 (wA ad 8) := by
  refine c_ofW (cc := cX4_mergedByValues) (maxL := 3) (ret := .int) (by decide) rfl rfl (Nat.le_of_ble_eq_true rfl) ?_
  intro p e s m av below meth cd Q hx hb hF hP hK hD hT hret ls hl
  have hown : s.vm.findClass RX4 = some m.cls := hF.2.2.2.1
  have hF : CallFix p m cd cX4_mergedByValues 3 s av wsX4_mergedByValues RX4 := hF
  have hts := hF.2.2.2.2
  have hl : lv_has ls 3 [(0, .ref (ad 0)), (1, .int (nI c)), (2, .int k)] := hl
  obtain ⟨H, eH⟩ : ∃ H9 : Heap, H9 = s.heap := ⟨_, rfl⟩
  obtain ⟨locs, eL⟩ : ∃ L9 : List Loc, L9 = [] := ⟨_, rfl⟩
  have hS : sS (wA ad 8) s.heap H locs := by rw [eH, eL]; exact sS.rf
  rw [← eH] at hP
  suffices hgo : W p l e ({ frames := 2, cells := 0, slots := 0, locals := 43 }) s m av below meth cd H locs 0 0 Q (F0 m 0 ls []) by rw [eH, eL] at hgo; exact hgo
  clear eH eL
  refine lv_aload_n hx hb dX4_mergedByValues_0 rfl (lv_at hl 0 rfl) ?_
  refine lv_aload_n hx hb dX4_mergedByValues_1 rfl (lv_at hl 0 rfl) ?_
  refine lv_iload_n hx hb dX4_mergedByValues_2 rfl (lv_at hl 1 rfl) ?_
  refine k_Ri (va_runV (As := [.int (nI c)]) (rest := [.ref (ad 0)]) hF (c_X4_isCard l D cI cA ad th n y (nI c) hn) (cwV 1 hts gX4_mergedByValues_X4_isCard rfl rfl rfl (by decide +kernel) ⟨(Nat.le_of_ble_eq_true rfl), (Nat.le_of_ble_eq_true rfl)⟩) (k_pre hP hK hD hT (k := 0) (by decide) mF_0 rfl) rfl rfl hl.1 rfl (lv_room (Nat.le_of_ble_eq_true rfl)) dX4_mergedByValues_3 ⟨Nat.zero_le _, Nat.zero_le _⟩) ?_
  refine r_topi (show bI (cardB n (nI c)) = bI true from congrArg bI (cardB_ok hc hn)) ?_
  refine r_ifneB (b := true) (tgt := 13) hx hb dX4_mergedByValues_6 (by decide) (fun _ => ?_) (fun h => absurd h (by decide))
  refine lv_iload_n hx hb dX4_mergedByValues_13 rfl (lv_at hl 2 rfl) ?_
  refine k_Ri (va_runS (As := [.int k]) (rest := [.ref (ad 0)]) hF (c_X4_isKind l k) (va_cwS 1 hts gX4_mergedByValues_X4_isKind rfl rfl rfl (by decide +kernel) ⟨(Nat.le_of_ble_eq_true rfl), (Nat.le_of_ble_eq_true rfl)⟩) k_preS rfl rfl hl.1 rfl (lv_room (Nat.le_of_ble_eq_true rfl)) dX4_mergedByValues_14 ⟨Nat.zero_le _, Nat.zero_le _⟩) ?_
  refine r_topi (show bI (kindB k) = bI false from congrArg bI (hbad)) ?_
  refine r_ifneB (b := false) (tgt := 24) hx hb dX4_mergedByValues_17 (by decide) (fun h => absurd h (by decide)) (fun _ => ?_)
  refine lv_iconst (v := nI 2) hx hb dX4_mergedByValues_20 (by decide) ?_
  refine lv_goto (tgt := 25) hx hb dX4_mergedByValues_21 (by decide) ?_
  refine k_Wi (va_runV (As := [.int (nI 2)]) (rest := []) hF (c_X4_isFine_2 l D cI cA ad th n y) (cwV 1 hts gX4_mergedByValues_X4_isFine rfl rfl rfl (by decide +kernel) ⟨(Nat.le_of_ble_eq_true rfl), (Nat.le_of_ble_eq_true rfl)⟩) (k_pre hP hK hD hT (k := 0) (by decide) mF_0 rfl) rfl rfl hl.1 rfl (lv_room (Nat.le_of_ble_eq_true rfl)) dX4_mergedByValues_25 ⟨Nat.zero_le _, Nat.zero_le _⟩) hD hS (fun H locs hP hS => ?_)
  refine r_ifeqB (b := false) (tgt := 40) hx hb dX4_mergedByValues_28 (by decide) (fun _ => ?_) (fun h => absurd h (by decide))
  refine lv_iconst (v := nI 0) hx hb dX4_mergedByValues_40 (by decide) ?_
  exact hret _ _ _ _ _ _ hP hS dX4_mergedByValues_41 (rfl) (rfl)
end
