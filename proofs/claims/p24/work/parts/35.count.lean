/-! counts over the places a = 24 c + d, and the order of the suggested pairs -/
def ct (P : Nat → Bool) : Nat → Nat
  | 0 => 0
  | i + 1 => ct P i + (P i).toNat
theorem ct_t {P : Nat → Bool} {i : Nat} (h : P i = true) : ct P (i + 1) = ct P i + 1 := by rw [ct, h]; rfl
theorem ct_f {P : Nat → Bool} {i : Nat} (h : P i = false) : ct P (i + 1) = ct P i := by rw [ct, h]; rfl
theorem ct_skip {P : Nat → Bool} {m : Nat} : ∀ j, (∀ a, m ≤ a → a < m + j → P a = false) → ct P (m + j) = ct P m
  | 0, _ => rfl
  | j + 1, h => by
    rw [show m + (j + 1) = (m + j) + 1 by omega, ct_f (h (m + j) (by omega) (by omega)), ct_skip j (fun a h1 h2 => h a h1 (by omega))]
theorem ct_to {P : Nat → Bool} {m k : Nat} (hmk : m ≤ k) (h : ∀ a, m ≤ a → a < k → P a = false) : ct P k = ct P m := by
  have := ct_skip (P := P) (m := m) (k - m) (fun a h1 h2 => h a h1 (by omega))
  rwa [show m + (k - m) = k by omega] at this
theorem ct_le {P Q : Nat → Bool} : ∀ m, (∀ a, a < m → P a = true → Q a = true) → ct P m ≤ ct Q m
  | 0, _ => Nat.le_refl _
  | m + 1, h => by
    have ih := ct_le m (fun a ha => h a (by omega))
    cases e : P m with
    | true => rw [ct_t e, ct_t (h m (by omega) e)]; omega
    | false =>
      rw [ct_f e]
      cases e2 : Q m with
      | true => rw [ct_t e2]; omega
      | false => rw [ct_f e2]; exact ih
theorem ct_up {P : Nat → Bool} {m : Nat} : ∀ j, ct P m ≤ ct P (m + j)
  | 0 => Nat.le_refl _
  | j + 1 => Nat.le_trans (ct_up j) (Nat.le_add_right _ _)
theorem ct_mono {P : Nat → Bool} {m k : Nat} (h : m ≤ k) : ct P m ≤ ct P k := by
  have := ct_up (P := P) (m := m) (k - m)
  rwa [show m + (k - m) = k by omega] at this
theorem ct_add {P Q R : Nat → Bool} : ∀ m, (∀ a, a < m → (R a).toNat = (P a).toNat + (Q a).toNat) → ct R m = ct P m + ct Q m
  | 0, _ => rfl
  | m + 1, h => by
    rw [ct, ct, ct, ct_add m (fun a ha => h a (by omega)), h m (by omega)]
    omega
theorem ct_one {P : Nat → Bool} : ∀ m, (∀ a b, a < m → b < m → P a = true → P b = true → a = b) → ct P m ≤ 1
  | 0, _ => Nat.zero_le _
  | m + 1, h => by
    cases e : P m with
    | false => rw [ct_f e]; exact ct_one m (fun a b ha hb => h a b (by omega) (by omega))
    | true =>
      rw [ct_t e, ct_to (P := P) (m := 0) (Nat.zero_le m) (fun a _ ha => Bool.eq_false_iff.mpr fun q => by have := h a m (by omega) (by omega) q e; omega)]
      exact Nat.le_refl _
theorem ct_lt {P : Nat → Bool} {a m : Nat} (ha : a < m) (h : P a = true) : ct P a < ct P m := by
  have := ct_mono (P := P) (show a + 1 ≤ m by omega)
  rw [ct_t h] at this
  omega
theorem ct_len {P : Nat → Bool} : ∀ m, ct P m ≤ m
  | 0 => Nat.le_refl _
  | m + 1 => by
    have := ct_len (P := P) m
    have := Bool.toNat_le (P m)
    rw [ct]
    omega
theorem ct_cut {P : Nat → Bool} {a N : Nat} (h : a ≤ N) : ct (fun b => P b && decide (b < a)) N = ct P a := by
  rw [ct_to (m := a) h (fun b hb _ => by simp; intro _; omega)]
  have go : ∀ m, m ≤ a → ct (fun b => P b && decide (b < a)) m = ct P m := by
    intro m
    induction m with
    | zero => intro _; rfl
    | succ m ih =>
      intro hm
      rw [ct, ct, ih (by omega), decide_eq_true (show m < a by omega), Bool.and_true]
  exact go a (Nat.le_refl _)
/-- b stands before a -/
def ltB (W : Nat → Nat) (b a : Nat) : Bool := decide (W a < W b ∨ (W b = W a ∧ b < a))
def rk (W : Nat → Nat) (a : Nat) : Nat := ct (fun b => ltB W b a) 601
theorem ltB_t {W : Nat → Nat} {a b : Nat} : ltB W b a = true ↔ (W a < W b ∨ (W b = W a ∧ b < a)) := decide_eq_true_iff
theorem rk_lt {W : Nat → Nat} {a b : Nat} (ha : a < 601) (h : ltB W a b = true) : rk W a < rk W b := by
  have h1 : ct (fun c => ltB W c a || decide (c = a)) 601 = ct (fun c => ltB W c a) 601 + ct (fun c => decide (c = a)) 601 := by
    refine ct_add 601 (fun c _ => ?_)
    by_cases e : c = a
    · have : ltB W c a = false := Bool.eq_false_iff.mpr fun q => by rw [ltB_t] at q; subst e; omega
      rw [this, decide_eq_true e]; rfl
    · rw [decide_eq_false e, Bool.or_false]; rfl
  have h2 : ct (fun c => ltB W c a || decide (c = a)) 601 ≤ ct (fun c => ltB W c b) 601 := by
    refine ct_le 601 (fun c _ q => ?_)
    rw [Bool.or_eq_true] at q
    rcases q with q | q
    · rw [ltB_t] at *; omega
    · have := of_decide_eq_true q; subst this; exact h
  have h3 := ct_lt (P := fun c => decide (c = a)) ha (decide_eq_true rfl)
  unfold rk
  omega
theorem rk_inj {W : Nat → Nat} {a b : Nat} (ha : a < 601) (hb : b < 601) (h : rk W a = rk W b) : a = b := by
  by_cases h1 : ltB W a b = true
  · have := rk_lt ha h1; omega
  · by_cases h2 : ltB W b a = true
    · have := rk_lt hb h2; omega
    · rw [ltB_t] at h1 h2; omega
theorem rk_few {W : Nat → Nat} : ∀ k, ct (fun b => decide (rk W b < k)) 601 ≤ k
  | 0 => by
    rw [ct_to (m := 0) (Nat.zero_le 601) (fun a _ _ => decide_eq_false (Nat.not_lt_zero _))]
    exact Nat.le_refl _
  | k + 1 => by
    have h1 : ct (fun b => decide (rk W b < k + 1)) 601 = ct (fun b => decide (rk W b < k)) 601 + ct (fun b => decide (rk W b = k)) 601 := by
      refine ct_add 601 (fun c _ => ?_)
      by_cases e : rk W c < k
      · rw [decide_eq_true e, decide_eq_true (show rk W c < k + 1 by omega), decide_eq_false (show ¬ rk W c = k by omega)]; rfl
      · rw [decide_eq_false e]
        by_cases e2 : rk W c = k
        · rw [decide_eq_true e2, decide_eq_true (show rk W c < k + 1 by omega)]; rfl
        · rw [decide_eq_false e2, decide_eq_false (show ¬ rk W c < k + 1 by omega)]; rfl
    have h2 := rk_few (W := W) k
    have h3 := ct_one (P := fun b => decide (rk W b = k)) 601 (fun a b ha hb qa qb => rk_inj (W := W) ha hb ((of_decide_eq_true qa).trans (of_decide_eq_true qb).symm))
    omega
theorem rk_eq {W : Nat → Nat} {a s : Nat} (ha : a < 601) (h : W a = s) : rk W a = ct (fun b => decide (s < W b)) 601 + ct (fun b => decide (W b = s)) a := by
  rw [← ct_cut (P := fun b => decide (W b = s)) (a := a) (N := 601) (by omega)]
  unfold rk
  refine ct_add 601 (fun c _ => ?_)
  unfold ltB
  rw [h]
  by_cases e : s < W c
  · rw [decide_eq_true e, decide_eq_true (Or.inl e), decide_eq_false (show ¬ W c = s by omega)]; rfl
  · rw [decide_eq_false e]
    by_cases e2 : W c = s ∧ c < a
    · rw [decide_eq_true (Or.inr e2), decide_eq_true e2.1, decide_eq_true e2.2]; rfl
    · rw [decide_eq_false (fun q => q.elim e e2)]
      by_cases e3 : W c = s
      · rw [decide_eq_true e3, decide_eq_false (fun q => e2 ⟨e3, q⟩)]; rfl
      · rw [decide_eq_false e3]; rfl
/-- the first of the greatest -/
def bst (F : Nat → Nat) (m e : Nat) : Prop := (e = 0 ∧ ∀ b, b < m → F b = 0) ∨ (0 < e ∧ e ≤ m ∧ 0 < F (e - 1) ∧ ∀ b, b < m → F b ≤ F (e - 1) ∧ (b < e - 1 → F b < F (e - 1)))
theorem bst_to {F : Nat → Nat} {m k e : Nat} (h : bst F m e) (hmk : m ≤ k) (hz : ∀ a, m ≤ a → a < k → F a = 0) : bst F k e := by
  rcases h with ⟨h1, h2⟩ | ⟨h1, h2, h3, h4⟩
  · refine Or.inl ⟨h1, fun b hb => ?_⟩
    by_cases q : b < m
    · exact h2 b q
    · exact hz b (by omega) hb
  · refine Or.inr ⟨h1, by omega, h3, fun b hb => ?_⟩
    by_cases q : b < m
    · exact h4 b q
    · rw [hz b (by omega) hb]
      exact ⟨Nat.zero_le _, fun _ => h3⟩
def okP (n a : Nat) : Prop := a / 24 < a % 24 ∧ a % 24 < n
def goodF (n : Nat) (y : Nat → Nat → Int32) (F : Nat → Nat) : Prop := (∀ a, okP n a → y 7 a = nI (F a)) ∧ (∀ a, ¬ okP n a → F a = 0) ∧ ∀ a, F a ≤ 152
theorem ok_at {n i k : Nat} (hn : n ≤ 24) (h : i + k + 1 < n) : okP n (25 * i + k + 1) := by unfold okP; omega
theorem no_row {n i a : Nat} (hn : n ≤ 24) (hi : i < n) (h : 24 * i + n ≤ a) (h2 : a < 25 * (i + 1) + 1) : ¬ okP n a := by unfold okP; omega
theorem no_end {n a : Nat} (hn : n ≤ 24) (h : 24 * n ≤ a) : ¬ okP n a := by unfold okP; omega
theorem no_0 {n : Nat} : ¬ okP n 0 := by unfold okP; omega
theorem bst_go {n m e : Nat} {y : Nat → Nat → Int32} {F : Nat → Nat} (g : goodF n y F) (hm : okP n m) (h : bst F m e) : bst F (m + 1) (selT y e m) := by
  obtain ⟨g1, g2, g3⟩ := g
  have b152 := g3 m
  unfold selT
  have z0 := nI_gt0 (show F m < 2 ^ 31 by omega)
  rw [g1 m hm]
  rcases h with ⟨h1, h2⟩ | ⟨h1, h2, h3, h4⟩
  · by_cases q : F m = 0
    · rw [if_neg (fun z => z.1 (z0.mpr q))]
      refine Or.inl ⟨h1, fun b hb => ?_⟩
      by_cases z : b = m
      · rw [z, q]
      · exact h2 b (by omega)
    · rw [if_pos ⟨fun w => q (z0.mp w), Or.inl h1⟩]
      refine Or.inr ⟨by omega, by omega, ?_, fun b hb => ?_⟩
      · rw [Nat.add_sub_cancel]; omega
      · rw [Nat.add_sub_cancel]
        by_cases z : b = m
        · subst z; exact ⟨Nat.le_refl _, fun w => absurd w (Nat.lt_irrefl _)⟩
        · rw [h2 b (by omega)]; exact ⟨Nat.zero_le _, fun _ => by omega⟩
  · have be := g3 (e - 1)
    have oe : okP n (e - 1) := Classical.byContradiction (fun z => by rw [g2 _ z] at h3; omega)
    have z1 := nI_leI (show F m < 2 ^ 31 by omega) (show F (e - 1) < 2 ^ 31 by omega)
    rw [g1 _ oe]
    by_cases q : F m ≤ F (e - 1)
    · rw [if_neg (fun z => z.2.elim (fun w => by omega) (fun w => w (z1.mpr q)))]
      refine Or.inr ⟨h1, by omega, h3, fun b hb => ?_⟩
      by_cases z : b = m
      · subst z; exact ⟨q, fun w => by omega⟩
      · exact h4 b (by omega)
    · rw [if_pos ⟨fun w => by have := z0.mp w; omega, Or.inr (fun w => q (z1.mp w))⟩]
      refine Or.inr ⟨by omega, by omega, ?_, fun b hb => ?_⟩
      · rw [Nat.add_sub_cancel]; omega
      · rw [Nat.add_sub_cancel]
        by_cases z : b = m
        · subst z; exact ⟨Nat.le_refl _, fun w => absurd w (Nat.lt_irrefl _)⟩
        · have := (h4 b (by omega)).1
          exact ⟨by omega, fun _ => by omega⟩
theorem selI_bst {n i e : Nat} {y : Nat → Nat → Int32} {F : Nat → Nat} (hn : n ≤ 24) (g : goodF n y F) (h : bst F (25 * i + 1) e) : ∀ k, i + k + 1 ≤ n → bst F (25 * i + k + 1) (selI y i e k)
  | 0, _ => h
  | k + 1, hk => by
    rw [selI, show 25 * i + (k + 1) + 1 = (25 * i + k + 1) + 1 by omega]
    exact bst_go g (ok_at hn (by omega)) (selI_bst hn g h k (by omega))
theorem selO_bst {n : Nat} {y : Nat → Nat → Int32} {F : Nat → Nat} (hn : n ≤ 24) (g : goodF n y F) : ∀ i, i ≤ n → bst F (25 * i + 1) (selO y n i)
  | 0, _ => Or.inl ⟨rfl, fun b hb => by rw [show b = 0 by omega]; exact g.2.1 0 no_0⟩
  | i + 1, hi => by
    rw [selO]
    refine bst_to (selI_bst hn g (selO_bst hn g i (by omega)) (n - (i + 1)) (by omega)) (by omega) (fun a h1 h2 => g.2.1 a (no_row hn (i := i) (by omega) (by omega) h2))
theorem sel_bst {n : Nat} {y : Nat → Nat → Int32} {F : Nat → Nat} (hn : n ≤ 24) (g : goodF n y F) : bst F 601 (selO y n n) :=
  bst_to (selO_bst hn g n (Nat.le_refl _)) (by omega) (fun a h1 h2 => g.2.1 a (no_end hn (by omega)))
/-- the k-th choice has rank k -/
def zr (W : Nat → Nat) (k a : Nat) : Nat := if 0 < W a ∧ rk W a < k then 0 else W a
theorem selS_o {y : Nat → Nat → Int32} {n q a : Nat} (ha : a ≠ 7) : ∀ k, selS y n q k a = y a
  | 0 => rfl
  | k + 1 => by funext b; rw [selS, up2_k ha, selS_o ha k]
theorem sel_rk {W : Nat → Nat} {k e : Nat} (h : bst (zr W k) 601 e) (hk : k < ct (fun b => decide (0 < W b)) 601) : 0 < e ∧ e ≤ 601 ∧ 0 < W (e - 1) ∧ rk W (e - 1) = k := by
  have few := rk_few (W := W) k
  rcases h with ⟨h1, h2⟩ | ⟨h1, h2, h3, h4⟩
  · exfalso
    have : ct (fun b => decide (0 < W b)) 601 ≤ ct (fun b => decide (rk W b < k)) 601 := by
      refine ct_le 601 (fun a ha q => ?_)
      have q := of_decide_eq_true q
      have z := h2 a ha
      unfold zr at z
      by_cases w : 0 < W a ∧ rk W a < k
      · exact decide_eq_true w.2
      · rw [if_neg w] at z; omega
    omega
  · have hw : ¬ (0 < W (e - 1) ∧ rk W (e - 1) < k) := fun z => by unfold zr at h3; rw [if_pos z] at h3; omega
    have e1 : zr W k (e - 1) = W (e - 1) := if_neg hw
    rw [e1] at h3 h4
    refine ⟨h1, h2, h3, ?_⟩
    have le : rk W (e - 1) ≤ ct (fun b => decide (rk W b < k)) 601 := by
      refine ct_le 601 (fun b hb q => ?_)
      rw [ltB_t] at q
      by_cases z : rk W b < k
      · exact decide_eq_true z
      · exfalso
        have e2 : zr W k b = W b := if_neg (fun w => z w.2)
        have := h4 b hb
        rw [e2] at this
        omega
    omega
theorem selS_good {n q : Nat} {y : Nat → Nat → Int32} {W : Nat → Nat} (hn : n ≤ 24) (g : goodF n y W) (hq : q < ct (fun b => decide (0 < W b)) 601) : ∀ k, k ≤ q → goodF n (selS y n q k) (zr W k)
  | 0, _ => by
    have e : zr W 0 = W := by funext a; exact if_neg (fun z => absurd z.2 (Nat.not_lt_zero _))
    rw [e]; exact g
  | k + 1, hk => by
    have ih := selS_good hn g hq k (by omega)
    obtain ⟨r1, r2, r3, r4⟩ := sel_rk (sel_bst hn ih) (by omega)
    obtain ⟨i1, i2, i3⟩ := ih
    refine ⟨fun a ha => ?_, fun a ha => ?_, fun a => ?_⟩
    · rw [selS]
      by_cases e : a = selO (selS y n q k) n n - 1
      · subst e
        rw [up2_self, if_pos (by omega)]
        unfold zr
        rw [if_pos ⟨r3, by omega⟩]
      · rw [up2_i e, i1 a ha]
        unfold zr
        by_cases z : 0 < W a ∧ rk W a < k
        · rw [if_pos z, if_pos ⟨z.1, by omega⟩]
        · rw [if_neg z]
          by_cases z2 : 0 < W a ∧ rk W a < k + 1
          · exfalso
            refine e (rk_inj (W := W) ?_ (by omega) ?_)
            · unfold okP at ha; omega
            · rw [r4]
              have : ¬ rk W a < k := fun w => z ⟨z2.1, w⟩
              omega
          · rw [if_neg z2]
    · unfold zr
      rw [g.2.1 a ha]
      split <;> rfl
    · unfold zr
      have := g.2.2 a
      split
      · omega
      · exact this
theorem sel_ans {n q : Nat} {y : Nat → Nat → Int32} {W : Nat → Nat} (hn : n ≤ 24) (g : goodF n y W) (hq : q < ct (fun b => decide (0 < W b)) 601) : ∀ k, k ≤ q → selO (selS y n q k) n n ≠ 0 ∧ selO (selS y n q k) n n - 1 < 601 ∧ 0 < W (selO (selS y n q k) n n - 1) ∧ rk W (selO (selS y n q k) n n - 1) = k := by
  intro k hk
  obtain ⟨r1, r2, r3, r4⟩ := sel_rk (sel_bst hn (selS_good hn g hq k hk)) (by omega)
  exact ⟨by omega, by omega, r3, r4⟩
