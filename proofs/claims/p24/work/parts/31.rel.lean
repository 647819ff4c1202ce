/-! THE RELATION of the class's numbers x and the reference's numbers y -/
def relA (n : Nat) (x y : Nat → Nat → Int32) : Prop := (∀ c, c < n → x 4 c = y 1 c) ∧ (∀ c v, c < n → v < 3 → x (v + 13) c = y 2 (3 * c + v)) ∧ ∀ c v k, c < 24 → v < 3 → k < 2 → x (2 * v + k + 16) c = y 3 (6 * c + 2 * v + k) ∧ fit30 (x (2 * v + k + 16) c)
def relL (n : Nat) (x y : Nat → Nat → Int32) : Prop := (∀ c, c < 24 → x 8 c = y 4 c) ∧ (∀ c j, c < 24 → j < 32 → hasB (x 8 c) j = true → c < n ∧ j < n ∧ hasB (x 8 j) c = true) ∧ (∀ c, c < n → isGrp (x 8) n c (x 9 c)) ∧ ∀ c, n ≤ c → c < 24 → x 9 c = bit c
def fN (n : Nat) (mc : Nat → Nat) (x y : Nat → Nat → Int32) (a b : Nat) : Prop := (x (a + 22) b = -1 ∧ hasB (y 6 a) b = false) ∨ (a < n ∧ b < n ∧ ∃ t, x (a + 22) b = nI t ∧ t ≤ mc a + mc b ∧ hasB (y 6 a) b = decide (t = mc a + mc b))
def relF (K n : Nat) (mc : Nat → Nat) (x y : Nat → Nat → Int32) : Prop := (∀ c, c < 24 → x 10 c = y 5 c) ∧ (∀ c, c < 24 → x 7 c = nI (mc c) ∧ mc c ≤ K) ∧ ∀ a b, a < 24 → b < 24 → fN n mc x y a b
def Rel (K n : Nat) (x y : Nat → Nat → Int32) : Prop := n ≤ 24 ∧ relA n x y ∧ relL n x y ∧ ∃ mc : Nat → Nat, relF K n mc x y
theorem relL.same {n : Nat} {x y x' y' : Nat → Nat → Int32} (h : relL n x y) (h8 : x' 8 = x 8) (h9 : x' 9 = x 9) (h4 : y' 4 = y 4) : relL n x' y' := by
  unfold relL at *
  rw [h8, h9, h4]
  exact h
theorem relF.same {K n : Nat} {mc : Nat → Nat} {x y x' y' : Nat → Nat → Int32} (h : relF K n mc x y) (h7 : x' 7 = x 7) (h10 : x' 10 = x 10) (h22 : ∀ a, a < 24 → x' (a + 22) = x (a + 22)) (h5 : y' 5 = y 5) (h6 : y' 6 = y 6) : relF K n mc x' y' := by
  obtain ⟨g1, g2, g3⟩ := h
  refine ⟨fun c hc => by rw [h10, h5]; exact g1 c hc, fun c hc => by rw [h7]; exact g2 c hc, fun a b ha hb => ?_⟩
  have := g3 a b ha hb
  unfold fN at *
  rw [h22 a ha, h6]
  exact this
theorem relF.more {K K' n : Nat} {mc : Nat → Nat} {x y : Nat → Nat → Int32} (h : relF K n mc x y) (hK : K ≤ K') : relF K' n mc x y := ⟨h.1, fun c hc => ⟨(h.2.1 c hc).1, Nat.le_trans (h.2.1 c hc).2 hK⟩, h.2.2⟩
theorem Rel.more {K K' n : Nat} {x y : Nat → Nat → Int32} (h : Rel K n x y) (hK : K ≤ K') : Rel K' n x y := by
  obtain ⟨h1, h2, h3, mc, h4⟩ := h
  exact ⟨h1, h2, h3, mc, h4.more hK⟩
/-- rows that nobody compares -/
theorem Rel.same {K n : Nat} {x y x' y' : Nat → Nat → Int32} (h : Rel K n x y) (hx : ∀ a, a ≠ 12 → x' a = x a) (hy : ∀ a, a ≠ 7 → y' a = y a) : Rel K n x' y' := by
  obtain ⟨h1, ⟨a1, a2, a3⟩, h3, mc, h4⟩ := h
  refine ⟨h1, ⟨fun c hc => ?_, fun c v hc hv => ?_, fun c v k hc hv hk => ?_⟩, h3.same (hx 8 (by decide)) (hx 9 (by decide)) (hy 4 (by decide)), mc, h4.same (hx 7 (by decide)) (hx 10 (by decide)) (fun a _ => hx _ (by omega)) (hy 5 (by decide)) (hy 6 (by decide))⟩
  · rw [hx 4 (by decide), hy 1 (by decide)]; exact a1 c hc
  · rw [hx _ (by omega), hy 2 (by decide)]; exact a2 c v hc hv
  · rw [hx _ (by omega), hy 3 (by decide)]; exact a3 c v k hc hv hk
/-- what 'changes' does -/
theorem chF_o {y : Nat → Nat → Int32} {c a : Nat} (ha : a ≠ 6) : ∀ m, chF y c m a = y a
  | 0 => by funext b; rw [chF, up2_k ha]
  | m + 1 => by funext b; rw [chF, up2_k ha, chF_o ha m]
theorem chF_6 {y : Nat → Nat → Int32} {c : Nat} (hc : c < 24) {i j : Nat} (hj : j < 32) : ∀ m, m ≤ 24 → hasB (chF y c m 6 i) j = if i = c then false else if i < m ∧ j = c then false else hasB (y 6 i) j
  | 0, _ => by
    rw [chF]
    by_cases h : i = c
    · subst h
      rw [up2_self, hb_0 hj, if_pos rfl]
    · rw [up2_i h, if_neg h, if_neg (fun q => absurd q.1 (Nat.not_lt_zero _))]
  | m + 1, hm => by
    rw [chF]
    by_cases h : i = m
    · subst h
      rw [up2_self, hb_and hj, chF_6 hc hj i (by omega), hb_xor hj, hb_bit (by omega) hj, hb_m1 hj]
      by_cases e : i = c
      · rw [if_pos e, if_pos e]; rfl
      · rw [if_neg e, if_neg e, if_neg (fun q => absurd q.1 (Nat.lt_irrefl _))]
        by_cases e2 : j = c
        · subst e2
          rw [if_pos ⟨Nat.lt_succ_self _, rfl⟩]
          simp
        · rw [if_neg (fun q => e2 q.2)]
          have : decide (c = j) = false := decide_eq_false (Ne.symm e2)
          rw [this]
          simp
    · rw [up2_i h, chF_6 hc hj m (by omega)]
      by_cases e : i = c
      · rw [if_pos e, if_pos e]
      · rw [if_neg e, if_neg e]
        by_cases e2 : i < m ∧ j = c
        · rw [if_pos e2, if_pos ⟨by omega, e2.2⟩]
        · rw [if_neg e2, if_neg (fun q => e2 ⟨by omega, q.2⟩)]
/-- MINE of a card has changed -/
theorem relF.ch {K n c : Nat} {mc : Nat → Nat} {x y x' y' : Nat → Nat → Int32} (h : relF K n mc x y) (hn : n ≤ 24) (hc : c < n) (h10 : x' 10 = x 10) (h22 : ∀ a, a < 24 → x' (a + 22) = x (a + 22)) (h7 : ∀ b, x' 7 b = if b = c then x 7 b + nI 1 else x 7 b) (h5 : y' 5 = y 5) (h6 : y' 6 = chF y c n 6) : relF (K + 1) n (fun i => if i = c then mc c + 1 else mc i) x' y' := by
  obtain ⟨g1, g2, g3⟩ := h
  refine ⟨fun i hi => by rw [h10, h5]; exact g1 i hi, fun i hi => ?_, fun a b ha hb => ?_⟩
  · rw [h7]
    dsimp only
    by_cases e : i = c
    · subst e
      rw [if_pos rfl, if_pos rfl, (g2 i hi).1, nI_add]
      exact ⟨rfl, by have := (g2 i hi).2; omega⟩
    · rw [if_neg e, if_neg e]
      exact ⟨(g2 i hi).1, by have := (g2 i hi).2; omega⟩
  · have hch : hasB (y' 6 a) b = if a = c then false else if a < n ∧ b = c then false else hasB (y 6 a) b := by
      rw [h6]
      exact chF_6 (by omega) (by omega) n hn
    unfold fN
    rw [h22 a ha]
    rcases g3 a b ha hb with ⟨q1, q2⟩ | ⟨q1, q2, t, q3, q4, q5⟩
    · left
      refine ⟨q1, ?_⟩
      rw [hch, q2]
      split
      · rfl
      · split <;> rfl
    · right
      refine ⟨q1, q2, t, q3, ?_, ?_⟩
      · show t ≤ (if a = c then mc c + 1 else mc a) + (if b = c then mc c + 1 else mc b)
        split <;> split <;> (try subst_vars) <;> omega
      · rw [hch]
        show _ = decide (t = (if a = c then mc c + 1 else mc a) + (if b = c then mc c + 1 else mc b))
        by_cases e : a = c
        · subst e
          rw [if_pos rfl, if_pos rfl]
          symm
          apply decide_eq_false
          split <;> (try subst_vars) <;> omega
        · rw [if_neg e, if_neg e]
          by_cases e2 : b = c
          · subst e2
            rw [if_pos ⟨q1, rfl⟩, if_pos rfl]
            symm
            apply decide_eq_false
            omega
          · rw [if_neg (fun q => e2 q.2), if_neg e2, q5]
/-- a set of a version is put -/
theorem Rel_putS {K n c v k : Nat} {x y : Nat → Nat → Int32} {w : Int32} (h : Rel K n x y) (hc : c < n) (hv : v < 3) (hk : k < 2) (hw : fit30 w) : Rel (K + 1) n (putS x c v k w) (mputS y n c v k w) := by
  obtain ⟨hn, ⟨a1, a2, a3⟩, hL, mc, hF⟩ := h
  have e0 := (a3 c v k (by omega) hv hk).1
  have hx : ∃ x1 : Nat → Nat → Int32, putS x c v k w = up2 x1 (2 * v + k + 16) c w ∧ (∀ a, a ≠ 7 → x1 a = x a) := by
    by_cases q : v = 0 ∧ x (2 * v + k + 16) c ≠ w
    · exact ⟨_, putS_a q.1 q.2, fun a ha => by funext b; rw [up2_k ha]⟩
    · by_cases q0 : v = 0
      · exact ⟨x, putS_c (Decidable.of_not_not fun z => q ⟨q0, z⟩), fun _ _ => rfl⟩
      · exact ⟨x, putS_b q0, fun _ _ => rfl⟩
  have hy : ∃ y1 : Nat → Nat → Int32, mputS y n c v k w = up2 y1 3 (6 * c + 2 * v + k) w ∧ (∀ a, a ≠ 6 → y1 a = y a) := by
    by_cases q : v = 0 ∧ y 3 (6 * c + 2 * v + k) ≠ w
    · exact ⟨_, mputS_a q.1 q.2, fun a ha => chF_o ha n⟩
    · by_cases q0 : v = 0
      · exact ⟨y, mputS_c (Decidable.of_not_not fun z => q ⟨q0, z⟩), fun _ _ => rfl⟩
      · exact ⟨y, mputS_b q0, fun _ _ => rfl⟩
  obtain ⟨x1, ex, ox⟩ := hx
  obtain ⟨y1, ey, oy⟩ := hy
  have ux : ∀ a, a ≠ 7 → a ≠ 2 * v + k + 16 → putS x c v k w a = x a := fun a h1 h2 => by rw [ex]; funext b; rw [up2_k h2, ox a h1]
  have uy : ∀ a, a ≠ 6 → a ≠ 3 → mputS y n c v k w a = y a := fun a h1 h2 => by rw [ey]; funext b; rw [up2_k h2, oy a h1]
  refine ⟨hn, ⟨fun i hi => ?_, fun i u hi hu => ?_, fun i u j hi hu hj => ?_⟩, hL.same (ux 8 (by decide) (by omega)) (ux 9 (by decide) (by omega)) (uy 4 (by decide) (by decide)), ?_⟩
  · rw [ux 4 (by decide) (by omega), uy 1 (by decide) (by decide)]; exact a1 i hi
  · rw [ux _ (by omega) (by omega), uy 2 (by decide) (by decide)]; exact a2 i u hi hu
  · have b1 := a3 i u j hi hu hj
    by_cases q : i = c ∧ u = v ∧ j = k
    · obtain ⟨rfl, rfl, rfl⟩ := q
      rw [ex, ey, up2_self, up2_self]
      exact ⟨rfl, hw⟩
    · have e1 : putS x c v k w (2 * u + j + 16) i = x (2 * u + j + 16) i := by
        rw [ex]
        by_cases z : i = c
        · rw [up2_k (by omega), ox _ (by omega)]
        · rw [up2_i z, ox _ (by omega)]
      have e2 : mputS y n c v k w 3 (6 * i + 2 * u + j) = y 3 (6 * i + 2 * u + j) := by
        rw [ey, up2_i (by omega), oy _ (by decide)]
      rw [e1, e2]
      exact b1
  · by_cases q : v = 0 ∧ x (2 * v + k + 16) c ≠ w
    · refine ⟨_, hF.ch (c := c) hn hc (ux 10 (by decide) (by omega)) (fun a _ => ux _ (by omega) (by omega)) (fun b => ?_) (uy 5 (by decide) (by decide)) ?_⟩
      · rw [putS_a q.1 q.2, up2_k (by omega)]
        by_cases z : b = c
        · subst z; rw [up2_self, if_pos rfl]
        · rw [up2_i z, if_neg z]
      · rw [mputS_a q.1 (by rw [← e0]; exact q.2)]
        funext b
        rw [up2_k (by decide)]
    · refine ⟨mc, relF.more (hF.same ?_ (ux 10 (by decide) (by omega)) (fun a _ => ux _ (by omega) (by omega)) (uy 5 (by decide) (by decide)) ?_) (Nat.le_succ _)⟩
      · funext b
        by_cases q0 : v = 0
        · rw [putS_c (Decidable.of_not_not fun z => q ⟨q0, z⟩), up2_k (by omega)]
        · rw [putS_b q0, up2_k (by omega)]
      · funext b
        by_cases q0 : v = 0
        · rw [mputS_c (by rw [← e0]; exact Decidable.of_not_not fun z => q ⟨q0, z⟩), up2_k (by decide)]
        · rw [mputS_b q0, up2_k (by decide)]
/-- a name of a version is put -/
theorem Rel_putN {K n c v : Nat} {x y : Nat → Nat → Int32} {w : Int32} (h : Rel K n x y) (hc : c < n) (hv : v < 3) : Rel (K + 1) n (putN x c v w) (mputN y n c v w) := by
  obtain ⟨hn, ⟨a1, a2, a3⟩, hL, mc, hF⟩ := h
  have e0 := a2 c v hc hv
  have hx : ∃ x1 : Nat → Nat → Int32, putN x c v w = up2 x1 (v + 13) c w ∧ (∀ a, a ≠ 7 → x1 a = x a) := by
    by_cases q : v = 0 ∧ x (v + 13) c ≠ w
    · exact ⟨_, putN_a q.1 q.2, fun a ha => by funext b; rw [up2_k ha]⟩
    · by_cases q0 : v = 0
      · exact ⟨x, putN_c (Decidable.of_not_not fun z => q ⟨q0, z⟩), fun _ _ => rfl⟩
      · exact ⟨x, putN_b q0, fun _ _ => rfl⟩
  have hy : ∃ y1 : Nat → Nat → Int32, mputN y n c v w = up2 y1 2 (3 * c + v) w ∧ (∀ a, a ≠ 6 → y1 a = y a) := by
    by_cases q : v = 0 ∧ y 2 (3 * c + v) ≠ w
    · exact ⟨_, mputN_a q.1 q.2, fun a ha => chF_o ha n⟩
    · by_cases q0 : v = 0
      · exact ⟨y, mputN_c (Decidable.of_not_not fun z => q ⟨q0, z⟩), fun _ _ => rfl⟩
      · exact ⟨y, mputN_b q0, fun _ _ => rfl⟩
  obtain ⟨x1, ex, ox⟩ := hx
  obtain ⟨y1, ey, oy⟩ := hy
  have ux : ∀ a, a ≠ 7 → a ≠ v + 13 → putN x c v w a = x a := fun a h1 h2 => by rw [ex]; funext b; rw [up2_k h2, ox a h1]
  have uy : ∀ a, a ≠ 6 → a ≠ 2 → mputN y n c v w a = y a := fun a h1 h2 => by rw [ey]; funext b; rw [up2_k h2, oy a h1]
  refine ⟨hn, ⟨fun i hi => ?_, fun i u hi hu => ?_, fun i u j hi hu hj => ?_⟩, hL.same (ux 8 (by decide) (by omega)) (ux 9 (by decide) (by omega)) (uy 4 (by decide) (by decide)), ?_⟩
  · rw [ux 4 (by decide) (by omega), uy 1 (by decide) (by decide)]; exact a1 i hi
  · have b1 := a2 i u hi hu
    by_cases q : i = c ∧ u = v
    · obtain ⟨rfl, rfl⟩ := q
      rw [ex, ey, up2_self, up2_self]
    · have e1 : putN x c v w (u + 13) i = x (u + 13) i := by
        rw [ex]
        by_cases z : i = c
        · rw [up2_k (by omega), ox _ (by omega)]
        · rw [up2_i z, ox _ (by omega)]
      have e2 : mputN y n c v w 2 (3 * i + u) = y 2 (3 * i + u) := by
        rw [ey, up2_i (by omega), oy _ (by decide)]
      rw [e1, e2]
      exact b1
  · rw [ux _ (by omega) (by omega), uy 3 (by decide) (by decide)]; exact a3 i u j hi hu hj
  · by_cases q : v = 0 ∧ x (v + 13) c ≠ w
    · refine ⟨_, hF.ch (c := c) hn hc (ux 10 (by decide) (by omega)) (fun a _ => ux _ (by omega) (by omega)) (fun b => ?_) (uy 5 (by decide) (by decide)) ?_⟩
      · rw [putN_a q.1 q.2, up2_k (by omega)]
        by_cases z : b = c
        · subst z; rw [up2_self, if_pos rfl]
        · rw [up2_i z, if_neg z]
      · rw [mputN_a q.1 (by rw [← e0]; exact q.2)]
        funext b
        rw [up2_k (by decide)]
    · refine ⟨mc, relF.more (hF.same ?_ (ux 10 (by decide) (by omega)) (fun a _ => ux _ (by omega) (by omega)) (uy 5 (by decide) (by decide)) ?_) (Nat.le_succ _)⟩
      · funext b
        by_cases q0 : v = 0
        · rw [putN_c (Decidable.of_not_not fun z => q ⟨q0, z⟩), up2_k (by omega)]
        · rw [putN_b q0, up2_k (by omega)]
      · funext b
        by_cases q0 : v = 0
        · rw [mputN_c (by rw [← e0]; exact Decidable.of_not_not fun z => q ⟨q0, z⟩), up2_k (by decide)]
        · rw [mputN_b q0, up2_k (by decide)]
