/-! THE PROPERTY'S INVARIANT: the class's numbers are those of some reference's, refusals are symmetric, cards to come have no values -/
def Sy (x : Nat → Nat → Int32) : Prop := ∀ a b, a < 24 → b < 24 → hasB (x 10 a) b = hasB (x 10 b) a ∧ x (a + 22) b = x (b + 22) a
def Zr (n : Nat) (x : Nat → Nat → Int32) : Prop := ∀ r c, 16 ≤ r → r < 22 → n ≤ c → c < 24 → x r c = nI 0
def Gd (K n : Nat) (x : Nat → Nat → Int32) : Prop := (∃ y, Rel K n x y) ∧ Sy x ∧ Zr n x
section GD
variable {K K' n : Nat} {x x' : Nat → Nat → Int32}
theorem Sy.same (h : Sy x) (h10 : x' 10 = x 10) (h22 : ∀ a, a < 24 → x' (a + 22) = x (a + 22)) : Sy x' := fun a b ha hb => by
  rw [h10, h22 a ha, h22 b hb]; exact h a b ha hb
theorem Zr.same (h : Zr n x) (e : ∀ r c, 16 ≤ r → r < 22 → n ≤ c → x' r c = x r c) : Zr n x' := fun r c h1 h2 h3 h4 => (e r c h1 h2 h3).trans (h r c h1 h2 h3 h4)
theorem Gd.n24 (h : Gd K n x) : n ≤ 24 := h.1.elim fun _ r => r.n24
theorem Gd.more (h : Gd K n x) (hK : K ≤ K') : Gd K' n x := ⟨h.1.elim fun y r => ⟨y, r.more hK⟩, h.2⟩
theorem Gd.same (h : Gd K n x) (hx : ∀ a, a ≠ 12 → x' a = x a) : Gd K n x' :=
  ⟨h.1.elim fun y r => ⟨y, r.same hx (fun _ _ => rfl)⟩, h.2.1.same (hx 10 (by decide)) (fun a _ => hx _ (by omega)), h.2.2.same fun r c h1 h2 _ => by rw [hx r (by omega)]⟩
theorem Gd_start : Gd 0 0 x0 := by
  refine ⟨⟨y0, Rel_start⟩, fun a b ha hb => ?_, fun r c h1 h2 _ _ => ?_⟩
  · rw [x0_0 (by decide) (by decide), x0_22 (by omega), x0_22 (by omega)]
    refine ⟨?_, ?_⟩
    · show hasB (nI 0) b = hasB (nI 0) a
      rw [hb_0 (by omega), hb_0 (by omega)]
    · show (if b < 24 then (-1 : Int32) else nI 0) = if a < 24 then (-1 : Int32) else nI 0
      rw [if_pos hb, if_pos ha]
  · rw [x0_0 (by omega) h2]
/-! puts -/
theorem putS_r {c v k a : Nat} {w : Int32} (h7 : a ≠ 7) (h : a ≠ 2 * v + k + 16) : putS x c v k w a = x a := by
  funext i
  rw [putS_v, if_neg (fun q => h q.1), if_neg (fun q => h7 q.1)]
theorem putS_i {c v k a i : Nat} {w : Int32} (h : i ≠ c) : putS x c v k w a i = x a i := by
  rw [putS_v, if_neg (fun q => h q.2), if_neg (fun q => h q.2.1)]
theorem putS_at {c v k : Nat} {w : Int32} : putS x c v k w (2 * v + k + 16) c = w := by rw [putS_v, if_pos ⟨rfl, rfl⟩]
theorem putN_r {c v a : Nat} {w : Int32} (h7 : a ≠ 7) (h : a ≠ v + 13) : putN x c v w a = x a := by
  funext i
  rw [putN_v, if_neg (fun q => h q.1), if_neg (fun q => h7 q.1)]
theorem putN_i {c v a i : Nat} {w : Int32} (h : i ≠ c) : putN x c v w a i = x a i := by
  rw [putN_v, if_neg (fun q => h q.2), if_neg (fun q => h q.2.1)]
theorem putN_at {c v : Nat} {w : Int32} : putN x c v w (v + 13) c = w := by rw [putN_v, if_pos ⟨rfl, rfl⟩]
def SZ (n : Nat) (x : Nat → Nat → Int32) : Prop := Sy x ∧ Zr n x
theorem SZ_putS {c v k : Nat} {w : Int32} (h : SZ n x) (hc : c < n) (hv : v < 3) (hk : k < 2) : SZ n (putS x c v k w) :=
  ⟨h.1.same (putS_r (by decide) (by omega)) (fun a _ => putS_r (by omega) (by omega)), h.2.same fun r i _ _ hi => putS_i (by omega)⟩
theorem SZ_putN {c v : Nat} {w : Int32} (h : SZ n x) (hc : c < n) (hv : v < 3) : SZ n (putN x c v w) :=
  ⟨h.1.same (putN_r (by decide) (by omega)) (fun a _ => putN_r (by omega) (by omega)), h.2.same fun r i _ _ hi => putN_i (by omega)⟩
theorem SZ_putV {c v : Nat} {w a b : Int32} (h : SZ n x) (hc : c < n) (hv : v < 3) : SZ n (putV x c v w a b) :=
  SZ_putS (SZ_putS (SZ_putN h hc hv) hc hv (by decide)) hc hv (by decide)
theorem SZ_merge {c : Nat} (h : SZ n x) (hc : c < n) : SZ n (mergeV x c) :=
  SZ_putV (SZ_putV (SZ_putV h hc (by decide)) hc (by decide)) hc (by decide)
theorem SZ_sync {b : Int32} (h : SZ n x) : ∀ i, i ≤ n → SZ n (syS x b i)
  | 0, _ => h
  | i + 1, hi => by
    have ih := SZ_sync (b := b) h i (by omega)
    rw [syS]
    split
    · exact SZ_merge ih (by omega)
    · exact ih
theorem SZ_tk {k v : Nat} {g : Int32} (h : SZ n x) (hk : k < 2) : ∀ i, i ≤ n → SZ n (tkS x g k v i)
  | 0, _ => h
  | i + 1, hi => by
    have ih := SZ_tk (v := v) (g := g) h hk i (by omega)
    rw [tkS]
    split
    · exact SZ_putS ih (by omega) (by decide) hk
    · exact ih
theorem Gd_putS {c v k : Nat} {w : Int32} (h : Gd K n x) (hc : c < n) (hv : v < 3) (hk : k < 2) (hw : fit30 w) : Gd (K + 1) n (putS x c v k w) :=
  ⟨h.1.elim fun _ r => ⟨_, Rel_putS r hc hv hk hw⟩, SZ_putS h.2 hc hv hk⟩
theorem Gd_putN {c v : Nat} {w : Int32} (h : Gd K n x) (hc : c < n) (hv : v < 3) : Gd (K + 1) n (putN x c v w) :=
  ⟨h.1.elim fun _ r => ⟨_, Rel_putN r hc hv⟩, SZ_putN h.2 hc hv⟩
theorem Gd_sync {b : Int32} (h : Gd K n x) : Gd (K + 9 * n) n (syS x b n) :=
  ⟨h.1.elim fun _ r => ⟨_, (Rel_sync r n (Nat.le_refl _)).1⟩, SZ_sync h.2 n (Nat.le_refl _)⟩
theorem Gd_tk {k v : Nat} {g : Int32} (h : Gd K n x) (hk : k < 2) : Gd (K + n) n (tkS x g k v n) :=
  ⟨h.1.elim fun _ r => ⟨_, (Rel_tk r hk n (Nat.le_refl _)).1⟩, SZ_tk h.2 hk n (Nat.le_refl _)⟩
theorem Gd.fit (h : Gd K n x) {c v k : Nat} (hc : c < 24) (hv : v < 3) (hk : k < 2) : fit30 (x (2 * v + k + 16) c) := h.1.elim fun _ r => r.fit hc hv hk
theorem Gd.mineF (h : Gd K n x) {c k : Nat} (hc : c < 24) (hk : k < 2) : fit30 (x (k + 16) c) := h.1.elim fun _ r => r.mineF hc hk
/-! add -/
theorem appE_o {b w : Int32} {a : Nat} (h1 : a ≠ 4) (h2 : a ≠ 13) (h3 : a ≠ 14) (h4 : a ≠ 15) : appE x n b w a = x a := by
  funext i; unfold appE; rw [up2_k h4, up2_k h3, up2_k h2, up2_k h1]
theorem Gd_add {b w : Int32} (h : Gd K n x) (hn : n < 24) : Gd K (n + 1) (appE x n b w) :=
  ⟨h.1.elim fun _ r => ⟨_, Rel_add r hn⟩, h.2.1.same (appE_o (by decide) (by decide) (by decide) (by decide)) (fun a _ => appE_o (by omega) (by omega) (by omega) (by omega)), fun r c h1 h2 h3 h4 => by
    rw [appE_o (by omega) (by omega) (by omega) (by omega)]; exact h.2.2 r c h1 h2 (by omega) h4⟩
theorem add_facts {b w : Int32} (h : Gd K n x) (hn : n < 24) : appE x n b w 9 n = bit n ∧ appE x n b w 15 n = w ∧ appE x n b w 19 n = nI 0 := by
  refine ⟨?_, ?_, ?_⟩
  · rw [appE_o (by decide) (by decide) (by decide) (by decide)]
    exact h.1.elim fun _ r => r.2.2.1.2.2.2 n (Nat.le_refl _) hn
  · unfold appE; rw [up2_self]
  · rw [appE_o (by decide) (by decide) (by decide) (by decide)]
    exact h.2.2 19 n (by decide) (by decide) (Nat.le_refl _) hn
/-! links and refusals -/
theorem conX_o {c d a : Nat} (h1 : a ≠ 8) (h2 : a ≠ 9) : conX x c d a = x a := (pgF_o h2 24).trans (lnkX_o h1)
theorem disX_o {c d a : Nat} (h1 : a ≠ 8) (h2 : a ≠ 9) : disX x c d a = x a := (pgF_o h2 24).trans ((pgF_o h2 24).trans (cutX_o h1))
theorem Gd_link {c d : Nat} (h : Gd K n x) (hc : c < n) (hd : d < n) (hne : c ≠ d) : Gd K n (conX x c d) :=
  ⟨h.1.elim fun _ r => ⟨_, (Rel_link r hc hd hne).1⟩, h.2.1.same (conX_o (by decide) (by decide)) (fun a _ => conX_o (by omega) (by omega)), h.2.2.same fun r c h1 h2 _ => by rw [conX_o (by omega) (by omega)]⟩
theorem Gd_cut {c d : Nat} (h : Gd K n x) (hc : c < n) (hd : d < n) : Gd K n (disX x c d) :=
  ⟨h.1.elim fun _ r => ⟨_, (Rel_cut r hc hd).1⟩, h.2.1.same (disX_o (by decide) (by decide)) (fun a _ => disX_o (by omega) (by omega)), h.2.2.same fun r c h1 h2 _ => by rw [disX_o (by omega) (by omega)]⟩
theorem rfgX_o {c d a : Nat} (h : a ≠ 10) : rfgX x c d a = x a := by funext i; unfold rfgX; rw [up2_k h, up2_k h]
theorem rfnX_o {c d a : Nat} {w : Int32} (h : a < 22) : rfnX x c d w a = x a := by funext i; unfold rfnX; rw [up2_k (by omega), up2_k (by omega)]
theorem rfgX_10 {c d i j : Nat} (hc : c < 32) (hd : d < 32) (hne : c ≠ d) (hj : j < 32) : hasB (rfgX x c d 10 i) j = (hasB (x 10 i) j || (decide (i = c) && decide (j = d)) || (decide (i = d) && decide (j = c))) := by
  unfold rfgX
  by_cases e : i = d
  · subst e
    rw [up2_self, up2_i (Ne.symm hne), hb_or hj, hb_bit hc hj, decide_eq_false (Ne.symm hne), decide_eq_true (rfl : i = i)]
    simp [eq_comm]
  · rw [up2_i e]
    by_cases e2 : i = c
    · subst e2
      rw [up2_self, hb_or hj, hb_bit hd hj, decide_eq_true (rfl : i = i), decide_eq_false e]
      simp [eq_comm]
    · rw [up2_i e2, decide_eq_false e, decide_eq_false e2]
      simp
theorem rfnX_22 {c d i j : Nat} {w : Int32} : rfnX x c d w (i + 22) j = if (i = c ∧ j = d) ∨ (i = d ∧ j = c) then w else x (i + 22) j := by
  unfold rfnX up2
  by_cases e : i = d ∧ j = c
  · rw [if_pos ⟨by omega, e.2⟩, if_pos (Or.inr e)]
  · rw [if_neg (fun q => e ⟨by omega, q.2⟩)]
    by_cases e2 : i = c ∧ j = d
    · rw [if_pos ⟨by omega, e2.2⟩, if_pos (Or.inl e2)]
    · rw [if_neg (fun q => e2 ⟨by omega, q.2⟩), if_neg (fun q => q.elim e2 e)]
theorem Gd_rfg {c d : Nat} (h : Gd K n x) (hc : c < n) (hd : d < n) (hne : c ≠ d) : Gd K n (rfgX x c d) := by
  have n24 := h.n24
  refine ⟨h.1.elim fun _ r => ⟨_, Rel_rfg r hc hd hne⟩, fun a b ha hb => ?_, h.2.2.same fun r c h1 h2 _ => by rw [rfgX_o (by omega)]⟩
  rw [rfgX_o (a := a + 22) (by omega), rfgX_o (a := b + 22) (by omega), rfgX_10 (by omega) (by omega) hne (by omega), rfgX_10 (by omega) (by omega) hne (by omega), (h.2.1 a b ha hb).1]
  refine ⟨?_, (h.2.1 a b ha hb).2⟩
  cases hasB (x 10 b) a <;> by_cases q1 : a = c <;> by_cases q2 : b = d <;> by_cases q3 : a = d <;> by_cases q4 : b = c <;> simp [q1, q2, q3, q4]
theorem Gd_rfn {c d : Nat} (h : Gd K n x) (hc : c < n) (hd : d < n) (hne : c ≠ d) : Gd K n (rfnX x c d (mcOf x c d)) := by
  refine ⟨h.1.elim fun _ r => ⟨_, Rel_rfn r hc hd hne⟩, fun a b ha hb => ?_, h.2.2.same fun r c h1 h2 _ => by rw [rfnX_o (by omega)]⟩
  rw [rfnX_o (a := 10) (by decide), rfnX_22, rfnX_22]
  refine ⟨(h.2.1 a b ha hb).1, ?_⟩
  by_cases q : (a = c ∧ b = d) ∨ (a = d ∧ b = c)
  · rw [if_pos q, if_pos (by omega)]
  · rw [if_neg q, if_neg (by omega)]
    exact (h.2.1 a b ha hb).2
/-! groups and scores -/
theorem Gd.grp (h : Gd K n x) {c : Nat} (hc : c < n) : isGrp (x 8) n c (x 9 c) := h.1.elim fun _ r => r.2.2.1.2.2.1 c hc
theorem Gd.lk (h : Gd K n x) : lkOk (x 8) n := h.1.elim fun _ r => r.2.2.1.2.1
theorem Gd.in (h : Gd K n x) {c j : Nat} (hc : c < n) (hj : j < 32) (q : hasB (x 9 c) j = true) : j < n := grp_in h.n24 h.lk hc (h.grp hc) hj q
theorem Gd.self (h : Gd K n x) {c : Nat} (hc : c < n) : hasB (x 9 c) c = true := (h.grp hc).1
theorem Gd.tog (h : Gd K n x) {c d : Nat} (hc : c < n) (hd : d < n) : hasB (x 9 c) d = true ↔ x 9 c = x 9 d := by
  constructor
  · exact fun q => grp_uniq (grp_at h.n24 h.lk (h.grp hc) hd q) (h.grp hd)
  · intro q
    rw [q]
    exact h.self hd
theorem Gd.togS (h : Gd K n x) {c d : Nat} (hc : c < n) (hd : d < n) : hasB (x 9 c) d = hasB (x 9 d) c := by
  rw [Bool.eq_iff_iff, h.tog hc hd, h.tog hd hc]
  exact ⟨Eq.symm, Eq.symm⟩
theorem shr_comm {c d k : Nat} : shr x c d k = shr x d c k := by unfold shr; rw [Int32.and_comm]
theorem Gd.scS (h : Gd K n x) {c d : Nat} (hc : c < n) (hd : d < n) : sc x c d = sc x d c := by
  unfold sc
  rw [h.togS hc hd, shr_comm (c := c), shr_comm (c := c) (k := 1)]
  by_cases q : x 13 c = x 13 d
  · rw [q]
  · rw [if_neg q, if_neg (Ne.symm q)]
theorem Gd.sgS (h : Gd K n x) {c d : Nat} (hc : c < n) (hd : d < n) : sg x c d = sg x d c := by
  have n24 := h.n24
  have e := h.2.1 c d (by omega) (by omega)
  unfold sg staB
  rw [h.scS hc hd, e.1, e.2, show mcOf x c d = mcOf x d c from Int32.add_comm _ _]
theorem Gd.sc_le (h : Gd K n x) {c d : Nat} (hc : c < n) (hd : d < n) : ∃ k, k ≤ 152 ∧ sc x c d = nI k := h.1.elim fun _ r => r.sc_le hc hd
theorem Gd.gX (h : Gd K n x) : goodX n x (Wf x n) := h.1.elim fun _ r => r.gX
end GD
