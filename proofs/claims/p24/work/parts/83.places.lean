/-! PLACES of the suggested pairs, and turning one down -/
section PLC
variable {K n : Nat} {x x' : Nat → Nat → Int32}
theorem W_ok {a : Nat} (h : 0 < Wf x n a) : a / 24 < a % 24 ∧ a % 24 < n := Classical.byContradiction fun q => by
  unfold Wf at h
  rw [if_neg q] at h
  omega
theorem Gd.sg_le (h : Gd K n x) {c d : Nat} (hc : c < n) (hd : d < n) : ∃ k, k ≤ 152 ∧ sg x c d = nI k := h.1.elim fun _ r => r.sg_le hc hd
theorem Gd.W_sg (h : Gd K n x) {a : Nat} (ha : a / 24 < a % 24 ∧ a % 24 < n) : sg x (a / 24) (a % 24) = nI (Wf x n a) := by
  obtain ⟨k, hk, e⟩ := h.sg_le (c := a / 24) (d := a % 24) (by omega) ha.2
  unfold Wf
  rw [if_pos ha]
  unfold sgN
  rw [e, nI_clamp (by omega)]
theorem sg_sc {c d w : Nat} (hw : 0 < w) (hw2 : w ≤ 152) (e : sg x c d = nI w) : sc x c d = nI w ∧ hasB (x 9 c) d = false := by
  have nz : ¬ nI 0 = nI w := fun z => by have := (nI_eq (by decide) (by omega)).mp z; omega
  unfold sg at e
  by_cases q : staB x c d (mcOf x c d) = true
  · rw [if_pos q] at e; exact absurd e nz
  · rw [if_neg q] at e
    refine ⟨e, Bool.eq_false_iff.mpr fun z => ?_⟩
    unfold sc at e
    rw [if_pos z] at e
    exact absurd e nz
theorem Gd.sg_nz (h : Gd K n x) {c d : Nat} (hc : c < n) (hd : d < n) (q : ¬ sg x c d = 0) : ∃ w, 0 < w ∧ w ≤ 152 ∧ sg x c d = nI w ∧ sc x c d = nI w := by
  obtain ⟨w, hw, e⟩ := h.sg_le hc hd
  have h0 : 0 < w := by
    rcases Nat.eq_zero_or_pos w with z | z
    · rw [z, nI_0] at e; exact absurd e q
    · exact z
  exact ⟨w, h0, hw, e, (sg_sc h0 hw e).1⟩
/-- how many pairs there are -/
def Mp (n : Nat) (x : Nat → Nat → Int32) : Nat := ct (cPos (Wf x n)) 601
theorem Gd.tl (h : Gd K n x) (hx : ∀ a, a ≠ 12 → x' a = x a) : tlC x' n = nI (Mp n x) := tlC_ct h.n24 (h.gX.to hx)
theorem all_276 : ct (fun a => decide (a / 24 < a % 24)) 601 = 276 := by decide +kernel
theorem Mp_le : Mp n x ≤ 276 := by
  rw [← all_276]
  exact ct_le 601 (fun a _ q => decide_eq_true (W_ok (of_decide_eq_true q)).1)
theorem pos_rk {W : Nat → Nat} {a : Nat} (h : rk W a < ct (cPos W) 601) : 0 < W a := Classical.byContradiction fun q => by
  have : ct (cPos W) 601 ≤ rk W a := ct_le 601 (fun b _ z => ltB_t.mpr (Or.inl (by have := of_decide_eq_true z; omega)))
  omega
theorem Gd.place (h : Gd K n x) (hx : ∀ a, a ≠ 12 → x' a = x a) {q : Nat} (hq : q < Mp n x) : ∃ a, a < 601 ∧ rk (Wf x n) a = q ∧ 0 < Wf x n a ∧ pW (tlS x' n) n 152 (nI q) = nI (100 * (a / 24) + a % 24) := by
  have gx := h.gX
  have M := Mp_le (n := n) (x := x)
  have hgt : ct (cGt (Wf x n) 152) 601 = 0 := ct_to (m := 0) (Nat.zero_le _) (fun a _ _ => decide_eq_false (by have := gx.2.2 a; omega))
  obtain ⟨a, a1, a2, a3⟩ := pW_at h.n24 ((gx.to hx).to (fun _ ha => tlS_o ha)) (fun s h1 h2 => tlS_ct h.n24 (gx.to hx) h1 h2) hq 152 q (Nat.le_refl _) (by omega) (by omega)
  exact ⟨a, a1, a2, pos_rk (by rw [a2]; exact hq), a3⟩
/-- .. one behind the other -/
theorem rk_ord {W : Nat → Nat} {a b : Nat} (ha : a < 601) (hb : b < 601) (h : rk W a < rk W b) : W b < W a ∨ (W b = W a ∧ a < b) := by
  by_cases q : ltB W a b = true
  · rw [ltB_t] at q; omega
  · by_cases q2 : ltB W b a = true
    · have := rk_lt hb q2; omega
    · rw [ltB_t] at q q2
      have : a = b := by omega
      rw [this] at h; omega
/-- the law's numbers at the place q: the score and the pair before, the pairs that it has seen -/
def Pl (n : Nat) (x : Nat → Nat → Int32) (q bf : Nat) (last : Int32) (sn : Nat → Int32) : Prop :=
  ((q = 0 ∧ bf = 1000 ∧ last = -1) ∨ ∃ a, a < 601 ∧ rk (Wf x n) a + 1 = q ∧ bf = Wf x n a ∧ last = nI (100 * (a / 24) + a % 24)) ∧ ∀ i j, i < 24 → j < 24 → hasB (sn i) j = true → rk (Wf x n) (24 * i + j) < q
theorem Gd.W152 (h : Gd K n x) (a : Nat) : Wf x n a ≤ 152 := h.gX.2.2 a
theorem Pl.bf (h : Gd K n x) {q bf : Nat} {last : Int32} {sn : Nat → Int32} (p : Pl n x q bf last sn) : bf < 2 ^ 30 := by
  rcases p.1 with ⟨-, z, -⟩ | ⟨a, -, -, z, -⟩
  · omega
  · have := h.W152 a; omega
theorem Pl.cmp {q bf a : Nat} {last : Int32} {sn : Nat → Int32} (h : Gd K n x) (p : Pl n x q bf last sn) (ha : a < 601) (hr : rk (Wf x n) a = q) : Wf x n a < bf ∨ (Wf x n a = bf ∧ ¬ nI (100 * (a / 24) + a % 24) ≤ last) := by
  rcases p.1 with ⟨-, z, -⟩ | ⟨a', a1, a2, a3, a4⟩
  · have := h.W152 a; omega
  · rcases rk_ord a1 ha (show rk (Wf x n) a' < rk (Wf x n) a by omega) with z | ⟨z1, z2⟩
    · left; omega
    · right
      refine ⟨by omega, ?_⟩
      rw [a4, nI_leI (by omega) (by omega)]
      omega
theorem Pl.un {q bf a : Nat} {last : Int32} {sn : Nat → Int32} (p : Pl n x q bf last sn) (hr : rk (Wf x n) a = q) (ha : a / 24 < 24) : hasB (sn (a / 24)) (a % 24) = false := Bool.eq_false_iff.mpr fun z => by
  have := p.2 (a / 24) (a % 24) ha (Nat.mod_lt _ (by decide)) z
  rw [show 24 * (a / 24) + a % 24 = a by omega] at this
  omega
theorem Pl.go {q bf a : Nat} {last : Int32} {sn : Nat → Int32} (p : Pl n x q bf last sn) (ha : a < 601) (hr : rk (Wf x n) a = q) : Pl n x (q + 1) (Wf x n a) (nI (100 * (a / 24) + a % 24)) (upd sn (a / 24) (sn (a / 24) ||| bit (a % 24))) := by
  refine ⟨Or.inr ⟨a, ha, by omega, rfl, rfl⟩, fun i j hi hj z => ?_⟩
  by_cases e : i = a / 24
  · subst e
    rw [pk_us, hb_or (by omega), hb_bit (by omega) (by omega), Bool.or_eq_true] at z
    rcases z with z | z
    · have := p.2 _ j hi hj z; omega
    · have := of_decide_eq_true z
      rw [← this, show 24 * (a / 24) + a % 24 = a by omega]; omega
  · rw [pk_un e] at z
    have := p.2 i j hi hj z; omega
theorem Pl.start {sn : Nat → Int32} (h : ∀ i, i < 24 → sn i = nI 0) : Pl n x 0 1000 (-1) sn := ⟨Or.inl ⟨rfl, rfl, rfl⟩, fun i j hi hj z => by
  rw [h i hi, hb_0 (by omega)] at z; cases z⟩
/-! turning down -/
theorem sc_same (h : ∀ a, a ≠ 12 → x' a = x a) (c d : Nat) : sc x' c d = sc x c d := by
  unfold sc shr
  rw [h 9 (by decide), h 13 (by decide), h (0 + 16) (by decide), h (1 + 16) (by decide)]
def offP (n : Nat) (x x' : Nat → Nat → Int32) (c d : Nat) : Prop := (∀ i j, i < n → j < n → sg x' i j = if (i = c ∧ j = d) ∨ (i = d ∧ j = c) then nI 0 else sg x i j) ∧ ∀ i j, sc x' i j = sc x i j
theorem off_rfg {c d : Nat} (n24 : n ≤ 24) (hc : c < n) (hd : d < n) (hne : c ≠ d) : offP n x (rfgX x c d) c d := by
  have s : ∀ i j, sc (rfgX x c d) i j = sc x i j := fun i j => by
    unfold sc shr
    rw [rfgX_o (a := 9) (by decide), rfgX_o (a := 13) (by decide), rfgX_o (a := 0 + 16) (by decide), rfgX_o (a := 1 + 16) (by decide)]
  refine ⟨fun i j hi hj => ?_, s⟩
  unfold sg
  rw [s]
  have st : staB (rfgX x c d) i j (mcOf (rfgX x c d) i j) = (staB x i j (mcOf x i j) || decide ((i = c ∧ j = d) ∨ (i = d ∧ j = c))) := by
    unfold staB mcOf
    rw [rfgX_10 (by omega) (by omega) hne (by omega), rfgX_o (a := i + 22) (by omega), rfgX_o (a := 7) (by decide)]
    by_cases q1 : i = c ∧ j = d
    · rw [decide_eq_true (Or.inl q1 : (i = c ∧ j = d) ∨ (i = d ∧ j = c)), decide_eq_true q1.1, decide_eq_true q1.2]; simp
    · by_cases q2 : i = d ∧ j = c
      · rw [decide_eq_true (Or.inr q2 : (i = c ∧ j = d) ∨ (i = d ∧ j = c)), decide_eq_true q2.1, decide_eq_true q2.2]; simp
      · rw [decide_eq_false (fun z => z.elim q1 q2 : ¬ ((i = c ∧ j = d) ∨ (i = d ∧ j = c))), ← Bool.decide_and, ← Bool.decide_and, decide_eq_false q1, decide_eq_false q2]; simp
  rw [st]
  by_cases q : (i = c ∧ j = d) ∨ (i = d ∧ j = c)
  · rw [decide_eq_true q, Bool.or_true, if_pos rfl, if_pos q]
  · rw [decide_eq_false q, Bool.or_false, if_neg q]
theorem off_rfn {c d : Nat} : offP n x (rfnX x c d (mcOf x c d)) c d := by
  have s : ∀ i j, sc (rfnX x c d (mcOf x c d)) i j = sc x i j := fun i j => by
    unfold sc shr
    rw [rfnX_o (a := 9) (by decide), rfnX_o (a := 13) (by decide), rfnX_o (a := 0 + 16) (by decide), rfnX_o (a := 1 + 16) (by decide)]
  refine ⟨fun i j hi hj => ?_, s⟩
  unfold sg
  rw [s]
  have e7 : mcOf (rfnX x c d (mcOf x c d)) i j = mcOf x i j := by unfold mcOf; rw [rfnX_o (a := 7) (by decide)]
  rw [e7]
  have st : staB (rfnX x c d (mcOf x c d)) i j (mcOf x i j) = (hasB (x 10 i) j || decide ((if (i = c ∧ j = d) ∨ (i = d ∧ j = c) then mcOf x c d else x (i + 22) j) = mcOf x i j)) := by
    unfold staB
    rw [rfnX_o (a := 10) (by decide), rfnX_22]
  rw [st]
  by_cases q : (i = c ∧ j = d) ∨ (i = d ∧ j = c)
  · have e : mcOf x c d = mcOf x i j := by
      rcases q with ⟨rfl, rfl⟩ | ⟨rfl, rfl⟩
      · rfl
      · exact Int32.add_comm _ _
    rw [if_pos q, if_pos q, decide_eq_true e, Bool.or_true, if_pos rfl]
  · rw [if_neg q, if_neg q]
    rfl
theorem Gd.off_cnt (h : Gd K n x) (h' : Gd K n x') {c d : Nat} (hc : c < n) (hd : d < n) (hne : c ≠ d) (hsg : ¬ sg x c d = 0) (off : offP n x x' c d) : Mp n x = Mp n x' + 1 := by
  have n24 := h.n24
  obtain ⟨lo, hi, hlt, hhi, hor⟩ : ∃ lo hi, lo < hi ∧ hi < n ∧ ((lo = c ∧ hi = d) ∨ (lo = d ∧ hi = c)) := by
    rcases Nat.lt_or_gt_of_ne hne with z | z
    · exact ⟨c, d, z, hd, Or.inl ⟨rfl, rfl⟩⟩
    · exact ⟨d, c, z, hc, Or.inr ⟨rfl, rfl⟩⟩
  have hsg2 : ¬ sg x lo hi = 0 := by
    rcases hor with ⟨rfl, rfl⟩ | ⟨rfl, rfl⟩
    · exact hsg
    · rw [h.sgS hd hc]; exact hsg
  obtain ⟨w, w0, w1, w2, -⟩ := h.sg_nz (by omega) hhi hsg2
  obtain ⟨a0, ea⟩ : ∃ a0, a0 = 24 * lo + hi := ⟨_, rfl⟩
  have e1 : a0 / 24 = lo := by omega
  have e2 : a0 % 24 = hi := by omega
  unfold Mp
  have step : ∀ a, a < 601 → (cPos (Wf x n) a).toNat = (cPos (Wf x' n) a).toNat + (decide (a = a0)).toNat := fun a ha => by
    by_cases e : a = a0
    · subst e
      have p1 : Wf x n a = w := by
        unfold Wf
        rw [if_pos (by omega), e1, e2]
        unfold sgN
        rw [w2, nI_clamp (by omega)]
      have p2 : Wf x' n a = 0 := by
        unfold Wf
        rw [if_pos (by omega), e1, e2]
        unfold sgN
        rw [off.1 lo hi (by omega) hhi, if_pos hor, nI_clamp (by decide)]
      unfold cPos
      rw [p1, p2, decide_eq_true w0, decide_eq_true rfl, decide_eq_false (Nat.lt_irrefl 0)]; rfl
    · have p : Wf x' n a = Wf x n a := by
        unfold Wf
        by_cases q : a / 24 < a % 24 ∧ a % 24 < n
        · rw [if_pos q, if_pos q]
          unfold sgN
          rw [off.1 _ _ (by omega) q.2, if_neg (by omega)]
        · rw [if_neg q, if_neg q]
      unfold cPos
      rw [p, decide_eq_false e]; rfl
  rw [ct_add (P := cPos (Wf x' n)) (Q := fun a => decide (a = a0)) 601 step]
  have h1 := ct_one (P := fun a => decide (a = a0)) 601 (fun p r _ _ q1 q2 => (of_decide_eq_true q1).trans (of_decide_eq_true q2).symm)
  have h2 := ct_lt (P := fun a => decide (a = a0)) (show a0 < 601 by omega) (decide_eq_true rfl)
  omega
end PLC
