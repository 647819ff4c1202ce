/-! the class's table of scores and its pairs, as counts -/
theorem sg_same {x x' : Nat → Nat → Int32} (h : ∀ a, a ≠ 12 → x' a = x a) (c d : Nat) : sg x' c d = sg x c d := by
  unfold sg staB mcOf sc shr
  rw [h 10 (by decide), h (c + 22) (by omega), h 7 (by decide), h 9 (by decide), h 13 (by decide), h (0 + 16) (by decide), h (1 + 16) (by decide)]
theorem stepS_o {x : Nat → Nat → Int32} {c d a : Nat} (ha : a ≠ 12) : stepS x c d a = x a := by
  unfold stepS
  split
  · funext b; rw [up2_k ha]
  · rfl
theorem inS_o {x : Nat → Nat → Int32} {c a : Nat} (ha : a ≠ 12) : ∀ k, inS x c k a = x a
  | 0 => rfl
  | k + 1 => by rw [inS, stepS_o ha, inS_o ha k]
theorem outS_o {x : Nat → Nat → Int32} {n a : Nat} (ha : a ≠ 12) : ∀ i, outS x n i a = x a
  | 0 => rfl
  | i + 1 => by rw [outS, inS_o ha, outS_o ha i]
theorem clr_o {x : Nat → Nat → Int32} {a : Nat} (ha : a ≠ 12) : ∀ i, clr x i a = x a
  | 0 => rfl
  | i + 1 => by funext b; rw [clr, up2_k ha, clr_o ha i]
theorem clr_12 {x : Nat → Nat → Int32} {s : Nat} : ∀ i, s < i → clr x i 12 s = nI 0
  | 0, h => absurd h (Nat.not_lt_zero _)
  | i + 1, h => by
    rw [clr]
    by_cases e : s = i
    · subst e; rw [up2_self]
    · rw [up2_i e]; exact clr_12 i (by omega)
theorem tlS_o {x : Nat → Nat → Int32} {n a : Nat} (ha : a ≠ 12) : tlS x n a = x a := by unfold tlS; rw [outS_o ha, clr_o ha]
def goodX (n : Nat) (x : Nat → Nat → Int32) (W : Nat → Nat) : Prop := (∀ i k, i + k + 1 < n → sg x i (k + i + 1) = nI (W (25 * i + k + 1))) ∧ (∀ a, ¬ okP n a → W a = 0) ∧ ∀ a, W a ≤ 152
theorem goodX.to {n : Nat} {x x' : Nat → Nat → Int32} {W : Nat → Nat} (g : goodX n x W) (h : ∀ a, a ≠ 12 → x' a = x a) : goodX n x' W := ⟨fun i k q => by rw [sg_same h]; exact g.1 i k q, g.2⟩
def cPos (W : Nat → Nat) (a : Nat) : Bool := decide (0 < W a)
def cEq (W : Nat → Nat) (s a : Nat) : Bool := decide (W a = s)
def cGt (W : Nat → Nat) (s a : Nat) : Bool := decide (s < W a)
section GX
variable {n : Nat} {x : Nat → Nat → Int32} {W : Nat → Nat}
theorem row_to (P : Nat → Bool) (hn : n ≤ 24) {i : Nat} (hi : i < n) (h : ∀ a, ¬ okP n a → P a = false) : ct P (25 * (i + 1) + 1) = ct P (25 * i + (n - (i + 1)) + 1) :=
  ct_to (by omega) (fun a h1 h2 => h a (no_row hn (i := i) hi (by omega) h2))
theorem end_to (P : Nat → Bool) (hn : n ≤ 24) (h : ∀ a, ¬ okP n a → P a = false) : ct P 601 = ct P (25 * n + 1) :=
  ct_to (by omega) (fun a h1 h2 => h a (no_end hn (by omega)))
theorem ct_at1 (P : Nat → Bool) (h : ∀ a, ¬ okP n a → P a = false) : ct P (25 * 0 + 1) = 0 := by
  rw [show 25 * 0 + 1 = 0 + 1 from rfl, ct_f (h 0 no_0)]; rfl
theorem goodX.pos (g : goodX n x W) : ∀ a, ¬ okP n a → cPos W a = false := fun a h => decide_eq_false (by rw [g.2.1 a h]; omega)
theorem goodX.eq (g : goodX n x W) {s : Nat} (hs : 0 < s) : ∀ a, ¬ okP n a → cEq W s a = false := fun a h => decide_eq_false (by rw [g.2.1 a h]; omega)
theorem cond_iff {w : Nat} (hw : w ≤ 152) : (¬ nI w ≤ 0 ∧ ¬ nI 152 < nI w) ↔ 0 < w := by
  have h1 := nI_gt0 (show w < 2 ^ 31 by omega)
  have h2 := nI_ltI (show 152 < 2 ^ 31 by omega) (show w < 2 ^ 31 by omega)
  constructor
  · intro ⟨q, _⟩
    have : ¬ w = 0 := fun z => q (h1.mpr z)
    omega
  · intro q
    exact ⟨fun z => by have := h1.mp z; omega, fun z => by have := h2.mp z; omega⟩
theorem inC_ct {i m : Nat} (g : goodX n x W) (hm : m = ct (cPos W) (25 * i + 1)) : ∀ k, i + k + 1 ≤ n → inC x i (nI m) k = nI (ct (cPos W) (25 * i + k + 1))
  | 0, _ => by rw [inC, hm]
  | k + 1, hk => by
    have e := (g.to (fun a ha => inS_o (x := x) (c := i) ha k)).1 i k (by omega)
    have b := g.2.2 (25 * i + k + 1)
    rw [show 25 * i + (k + 1) + 1 = (25 * i + k + 1) + 1 by omega]
    by_cases q : 0 < W (25 * i + k + 1)
    · rw [inC_t (by rw [e]; exact (cond_iff b).mpr q), inC_ct g hm k (by omega), ct_t (i := 25 * i + k + 1) (decide_eq_true q), nI_add]
    · rw [inC_n (by rw [e, nI_gt0 (by omega)]; omega), inC_ct g hm k (by omega), ct_f (i := 25 * i + k + 1) (decide_eq_false q)]
theorem inS_ct {i s : Nat} (g : goodX n x W) (hs : 0 < s) (h0 : x 12 s = nI (ct (cEq W s) (25 * i + 1))) : ∀ k, i + k + 1 ≤ n → inS x i k 12 s = nI (ct (cEq W s) (25 * i + k + 1))
  | 0, _ => by rw [inS, h0]
  | k + 1, hk => by
    have e := (g.to (fun a ha => inS_o (x := x) (c := i) ha k)).1 i k (by omega)
    have b := g.2.2 (25 * i + k + 1)
    have ih := inS_ct g hs h0 k (by omega)
    rw [show 25 * i + (k + 1) + 1 = (25 * i + k + 1) + 1 by omega]
    by_cases q : 0 < W (25 * i + k + 1)
    · have es : sgN (inS x i k) i (k + i + 1) = W (25 * i + k + 1) := by unfold sgN; rw [e, nI_clamp (by omega)]
      rw [inS_t (by rw [e]; exact (cond_iff b).mpr q), es]
      by_cases z : W (25 * i + k + 1) = s
      · rw [z, up2_self, ih, nI_add, ct_t (i := 25 * i + k + 1) (decide_eq_true z)]
      · rw [up2_i (Ne.symm z), ih, ct_f (i := 25 * i + k + 1) (decide_eq_false z)]
    · rw [inS_n (by rw [e, nI_gt0 (by omega)]; omega), ih, ct_f (i := 25 * i + k + 1) (decide_eq_false (by omega))]
theorem outC_ct (hn : n ≤ 24) (g : goodX n x W) : ∀ i, i ≤ n → outC x n i = nI (ct (cPos W) (25 * i + 1))
  | 0, _ => by rw [outC, ct_at1 _ g.pos]
  | i + 1, hi => by
    rw [outC, outC_ct hn g i (by omega), inC_ct (g.to (fun a ha => outS_o ha i)) rfl (n - (i + 1)) (by omega), row_to _ hn (by omega) g.pos]
theorem outS_ct {s : Nat} (hn : n ≤ 24) (g : goodX n x W) (hs : 0 < s) (h0 : x 12 s = nI 0) : ∀ i, i ≤ n → outS x n i 12 s = nI (ct (cEq W s) (25 * i + 1))
  | 0, _ => by rw [outS, h0, ct_at1 _ (g.eq hs)]
  | i + 1, hi => by
    rw [outS, inS_ct (g.to (fun a ha => outS_o ha i)) hs (outS_ct hn g hs h0 i (by omega)) (n - (i + 1)) (by omega), row_to _ hn (by omega) (g.eq hs)]
theorem tlC_ct (hn : n ≤ 24) (g : goodX n x W) : tlC x n = nI (ct (cPos W) 601) := by
  unfold tlC
  rw [outC_ct hn (g.to (fun a ha => clr_o ha 153)) n (Nat.le_refl _), end_to _ hn g.pos]
theorem tlS_ct {s : Nat} (hn : n ≤ 24) (g : goodX n x W) (hs : 0 < s) (h2 : s ≤ 152) : tlS x n 12 s = nI (ct (cEq W s) 601) := by
  unfold tlS
  rw [outS_ct hn (g.to (fun a ha => clr_o ha 153)) hs (clr_12 153 (by omega)) n (Nat.le_refl _), end_to _ hn (g.eq hs)]
/-- pairOfScore's answer -/
def atS (W : Nat → Nat) (s r0 : Nat) (v : Int32) : Prop := ∃ a, a < 601 ∧ W a = s ∧ ct (cEq W s) a = r0 ∧ v = nI (100 * (a / 24) + a % 24)
theorem pIn_at {s r0 i : Nat} {K : Int32 → Int32} (hn : n ≤ 24) (g : goodX n x W) (hs : 0 < s) (h2 : s ≤ 152) (hi : i < n) (hK : ∀ r, r < 2 ^ 31 → ct (cEq W s) (25 * (i + 1) + 1) + r = r0 → atS W s r0 (K (nI r))) : ∀ w k r, k + w = n - (i + 1) → r < 2 ^ 31 → ct (cEq W s) (25 * i + k + 1) + r = r0 → atS W s r0 (pIn x (nI s) i K w k (nI r))
  | 0, k, r, hk, hr, h => by
    rw [pIn]
    refine hK r hr ?_
    rw [row_to _ hn hi (g.eq hs), ← hk]
    exact h
  | w + 1, k, r, hk, hr, h => by
    have b := g.2.2 (25 * i + k + 1)
    have e := nI_eq (show W (25 * i + k + 1) < 2 ^ 31 by omega) (show s < 2 ^ 31 by omega)
    rw [pIn, g.1 i k (by omega)]
    by_cases q : W (25 * i + k + 1) = s
    · rw [if_pos (e.mpr q)]
      by_cases z : r = 0
      · subst z
        rw [if_pos nI_0]
        exact ⟨25 * i + k + 1, by omega, q, h, by rw [show 100 * ((25 * i + k + 1) / 24) + (25 * i + k + 1) % 24 = 101 * i + k + 1 by omega]⟩
      · rw [if_neg (nI_ne0 (by omega) hr)]
        obtain ⟨r', rfl⟩ : ∃ r', r = r' + 1 := ⟨r - 1, by omega⟩
        rw [show nI (r' + 1) + (-1) = nI r' from by rw [← nI_pred r']; exact (Int32.sub_eq_add_neg _ _).symm]
        refine pIn_at hn g hs h2 hi hK w (k + 1) r' (by omega) (by omega) ?_
        rw [show 25 * i + (k + 1) + 1 = (25 * i + k + 1) + 1 by omega, ct_t (i := 25 * i + k + 1) (decide_eq_true q)]
        omega
    · rw [if_neg (fun z => q (e.mp z))]
      refine pIn_at hn g hs h2 hi hK w (k + 1) r (by omega) hr ?_
      rw [show 25 * i + (k + 1) + 1 = (25 * i + k + 1) + 1 by omega, ct_f (i := 25 * i + k + 1) (decide_eq_false q)]
      exact h
theorem pOut_at {s r0 : Nat} (hn : n ≤ 24) (g : goodX n x W) (hs : 0 < s) (h2 : s ≤ 152) (hr0 : r0 < ct (cEq W s) 601) : ∀ w i r, i + w = n → r < 2 ^ 31 → ct (cEq W s) (25 * i + 1) + r = r0 → atS W s r0 (pOut x (nI s) n w i (nI r))
  | 0, i, r, hi, hr, h => by
    exfalso
    rw [end_to _ hn (g.eq hs), show n = i by omega] at hr0
    omega
  | w + 1, i, r, hi, hr, h => by
    rw [pOut]
    exact pIn_at hn g hs h2 (by omega) (fun r hr h => pOut_at hn g hs h2 hr0 w (i + 1) r (by omega) hr h) (n - (i + 1)) 0 r (by omega) hr h
theorem pO_at {s r : Nat} (hn : n ≤ 24) (g : goodX n x W) (hs : 0 < s) (h2 : s ≤ 152) (hr : r < ct (cEq W s) 601) : atS W s r (pO x (nI s) n 0 (nI r)) := by
  unfold pO
  refine pOut_at hn g hs h2 hr (n - 0) 0 r (by omega) ?_ ?_
  · have := ct_len (P := cEq W s) 601
    omega
  · rw [ct_at1 _ (g.eq hs)]; omega
theorem gt_step {W : Nat → Nat} (s : Nat) : ct (cGt W s) 601 = ct (cGt W (s + 1)) 601 + ct (cEq W (s + 1)) 601 := by
  refine ct_add 601 (fun a _ => ?_)
  unfold cGt cEq
  by_cases q : s + 1 < W a
  · rw [decide_eq_true q, decide_eq_true (show s < W a by omega), decide_eq_false (show ¬ W a = s + 1 by omega)]; rfl
  · rw [decide_eq_false q]
    by_cases z : W a = s + 1
    · rw [decide_eq_true z, decide_eq_true (show s < W a by omega)]; rfl
    · rw [decide_eq_false z, decide_eq_false (show ¬ s < W a by omega)]; rfl
theorem pW_no {M r q : Nat} (h : ct (cGt W 0) M + r = q) (hq : q < ct (cPos W) M) : False := by
  rw [show cGt W 0 = cPos W from rfl] at h
  omega
theorem pW_go {M r s : Nat} (hr : r < 2 ^ 31) (hM : M ≤ 601) (h12 : x 12 (s + 1) = nI (ct (cEq W (s + 1)) M)) : pW x n (s + 1) (nI r) = if r < ct (cEq W (s + 1)) M then pO x (nI (s + 1)) n 0 (nI r) else pW x n s (nI (r - ct (cEq W (s + 1)) M)) := by
  have l := ct_len (P := cEq W (s + 1)) M
  have e := nI_ltI hr (show ct (cEq W (s + 1)) M < 2 ^ 31 by omega)
  rw [pW, h12]
  by_cases z : r < ct (cEq W (s + 1)) M
  · rw [if_pos (e.mpr z), if_pos z]
  · have e2 : nI r - nI (ct (cEq W (s + 1)) M) = nI (r - ct (cEq W (s + 1)) M) := (Int32.ofNat_sub _ _ (by omega)).symm
    rw [if_neg (fun w => z (e.mp w)), if_neg z, e2]
theorem pW_at {q : Nat} (hn : n ≤ 24) (g : goodX n x W) (h12 : ∀ s, 0 < s → s ≤ 152 → x 12 s = nI (ct (cEq W s) 601)) (hq : q < ct (cPos W) 601) (s : Nat) : ∀ r, s ≤ 152 → r < 2 ^ 31 → ct (cGt W s) 601 + r = q → ∃ a, a < 601 ∧ rk W a = q ∧ pW x n s (nI r) = nI (100 * (a / 24) + a % 24) := by
  induction s with
  | zero => intro r _ _ h; exact (pW_no h hq).elim
  | succ s ih =>
    intro r hs hr h
    rw [pW_go hr (Nat.le_refl 601) (h12 (s + 1) (Nat.succ_pos s) hs)]
    by_cases z : r < ct (cEq W (s + 1)) 601
    · rw [if_pos z]
      obtain ⟨a, a1, a2, a3, a4⟩ := pO_at hn g (Nat.succ_pos s) hs z
      refine ⟨a, a1, ?_, a4⟩
      rw [rk_eq a1 a2, ← h, ← a3]
      rfl
    · rw [if_neg z]
      refine ih _ (Nat.le_of_succ_le hs) (Nat.lt_of_le_of_lt (Nat.sub_le _ _) hr) ?_
      rw [gt_step, Nat.add_assoc, Nat.add_sub_cancel' (Nat.le_of_not_lt z)]
      exact h
end GX
/-! the reference's -/
def goodY (n : Nat) (y : Nat → Nat → Int32) (g : Nat → Int32) (W : Nat → Nat) : Prop := (∀ i k, i + k + 1 < n → fV y g i (k + i + 1) = nI (W (25 * i + k + 1))) ∧ (∀ a, ¬ okP n a → W a = 0) ∧ ∀ a, W a ≤ 152
theorem fV_same {y y' : Nat → Nat → Int32} {g : Nat → Int32} (h : ∀ a, a ≠ 7 → y' a = y a) (c d : Nat) : fV y' g c d = fV y g c d := by
  unfold fV fndB alk
  rw [h 5 (by decide), h 6 (by decide), h 3 (by decide), h 2 (by decide)]
section GY
variable {n : Nat} {y : Nat → Nat → Int32} {g : Nat → Int32} {W : Nat → Nat}
theorem goodY.to {y' : Nat → Nat → Int32} (q : goodY n y g W) (h : ∀ a, a ≠ 7 → y' a = y a) : goodY n y' g W := ⟨fun i k z => by rw [fV_same h]; exact q.1 i k z, q.2⟩
theorem goodY.pos (q : goodY n y g W) : ∀ a, ¬ okP n a → cPos W a = false := fun a h => decide_eq_false (by rw [q.2.1 a h]; omega)
theorem finC_ct {i m : Nat} (q : goodY n y g W) (hm : m = ct (cPos W) (25 * i + 1)) : ∀ k, i + k + 1 ≤ n → finC y g i (nI m) k = nI (ct (cPos W) (25 * i + k + 1))
  | 0, _ => by rw [finC, hm]
  | k + 1, hk => by
    have e := (q.to (fun a ha => finS_4 (y := y) (g := g) (c := i) ha k)).1 i k (by omega)
    have b := q.2.2 (25 * i + k + 1)
    have z := nI_gt0 (show W (25 * i + k + 1) < 2 ^ 31 by omega)
    rw [show 25 * i + (k + 1) + 1 = (25 * i + k + 1) + 1 by omega, finC, e, finC_ct q hm k (by omega)]
    by_cases h : 0 < W (25 * i + k + 1)
    · rw [if_neg (fun w => by have := z.mp w; omega), ct_t (i := 25 * i + k + 1) (decide_eq_true h), nI_add]
    · rw [if_pos (z.mpr (by omega)), ct_f (i := 25 * i + k + 1) (decide_eq_false h), nI_add]; rfl
theorem fouC_ct (hn : n ≤ 24) (q : goodY n y g W) : ∀ i, i ≤ n → fouC y g n i = nI (ct (cPos W) (25 * i + 1))
  | 0, _ => by rw [fouC, ct_at1 _ q.pos]
  | i + 1, hi => by
    rw [fouC, fouC_ct hn q i (by omega), finC_ct (q.to (fun a ha => fouS_4 ha i)) rfl (n - (i + 1)) (by omega), row_to _ hn (by omega) q.pos]
theorem mfC_ct (hn : n ≤ 24) (q : goodY n y g W) : mfC y g n = nI (ct (cPos W) 601) := by
  unfold mfC
  rw [fouC_ct hn q n (Nat.le_refl _), end_to _ hn q.pos]
theorem finS_W {i : Nat} (q : goodY n y g W) (h : ∀ a, okP n a → a < 25 * i + 1 → y 7 a = nI (W a)) : ∀ k, i + k + 1 ≤ n → ∀ a, okP n a → a < 25 * i + k + 1 → finS y g i k 7 a = nI (W a)
  | 0, _, a, ha, h2 => h a ha h2
  | k + 1, hk, a, ha, h2 => by
    rw [finS]
    by_cases e : a = 25 * i + k + 1
    · subst e
      rw [up2_self]
      exact (q.to (fun a ha => finS_4 (y := y) (g := g) (c := i) ha k)).1 i k (by omega)
    · rw [up2_i e]
      exact finS_W q h k (by omega) a ha (by omega)
theorem fouS_W (hn : n ≤ 24) (q : goodY n y g W) : ∀ i, i ≤ n → ∀ a, okP n a → a < 25 * i + 1 → fouS y g n i 7 a = nI (W a)
  | 0, _, a, ha, h2 => absurd (show okP n 0 by rw [← show a = 0 by omega]; exact ha) no_0
  | i + 1, hi, a, ha, h2 => by
    rw [fouS]
    refine finS_W (q.to (fun a ha => fouS_4 ha i)) (fouS_W hn q i (by omega)) (n - (i + 1)) (by omega) a ha ?_
    apply Classical.byContradiction
    intro z
    exact no_row hn (i := i) (by omega) (by omega) h2 ha
theorem mfS_good (hn : n ≤ 24) (q : goodY n y g W) : goodF n (mfS y g n) W := ⟨fun a ha => fouS_W hn q n (Nat.le_refl _) a ha (by unfold okP at ha; omega), q.2⟩
end GY
/-! both -/
def Wf (x : Nat → Nat → Int32) (n a : Nat) : Nat := if a / 24 < a % 24 ∧ a % 24 < n then sgN x (a / 24) (a % 24) else 0
section BOTH
variable {K n : Nat} {x y : Nat → Nat → Int32}
theorem Rel.sgW (h : Rel K n x y) {i k : Nat} (hk : i + k + 1 < n) : sg x i (k + i + 1) = nI (Wf x n (25 * i + k + 1)) := by
  have n24 := h.n24
  obtain ⟨w, h1, h2⟩ := h.sg_le (c := i) (d := k + i + 1) (by omega) (by omega)
  have ok := ok_at n24 hk
  unfold okP at ok
  unfold Wf
  rw [if_pos ok, show (25 * i + k + 1) / 24 = i by omega, show (25 * i + k + 1) % 24 = k + i + 1 by omega]
  unfold sgN
  rw [h2, nI_clamp (by omega)]
theorem Rel.W152 (h : Rel K n x y) (a : Nat) : Wf x n a ≤ 152 := by
  unfold Wf
  split
  · rename_i q
    obtain ⟨w, h1, h2⟩ := h.sg_le (c := a / 24) (d := a % 24) (by omega) (by omega)
    unfold sgN
    rw [h2, nI_clamp (by omega)]
    exact h1
  · exact Nat.zero_le _
theorem Rel.gX (h : Rel K n x y) : goodX n x (Wf x n) := ⟨fun _ _ hk => h.sgW hk, fun _ ha => if_neg ha, h.W152⟩
theorem Rel.gY (h : Rel K n x y) (hK : K < 2 ^ 30) : goodY n y (x 9) (Wf x n) := ⟨fun i k hk => by rw [← h.sgV hK (by omega) (by omega)]; exact h.sgW hk, fun _ ha => if_neg ha, h.W152⟩
theorem Rel_pairs (h : Rel K n x y) (hK : K < 2 ^ 30) : Rel K n (tlS x n) (mfS y (x 9) n) ∧ tlC x n = mfC y (x 9) n :=
  ⟨h.same (fun _ ha => tlS_o ha) (fun _ ha => fouS_4 ha n), by rw [tlC_ct h.n24 h.gX, mfC_ct h.n24 (h.gY hK)]⟩
theorem tl_few (h : Rel K n x y) : ∃ N, N ≤ 601 ∧ tlC x n = nI N := ⟨_, ct_len _, tlC_ct h.n24 h.gX⟩
theorem inB_lt {q : Int32} {N : Nat} (hN : N ≤ 601) : inB q (nI 0) (nI N - nI 1) = decide (¬ q < 0 ∧ q < nI N) := by
  have iff : ∀ a b c : Prop, [Decidable a] → [Decidable b] → [Decidable c] → (c ↔ a ∧ b) → (decide a && decide b) = decide c := by
    intro a b c _ _ _ h
    by_cases ha : a <;> by_cases hb : b <;> simp [ha, hb, h]
  unfold inB
  rw [nI_0]
  refine iff _ _ _ ?_
  by_cases h : q < 0
  · exact ⟨fun z => absurd h z.1, fun z => absurd h z.1⟩
  · obtain ⟨j, hj, rfl⟩ := nI_of h
    cases N with
    | zero =>
      refine ⟨fun z => ?_, fun z => ?_⟩
      · have := (nI_ltI hj (by decide)).mp z.2
        omega
      · refine absurd ?_ z.2
        rw [show nI 0 - nI 1 = -1 by decide]
        exact Int32.lt_of_lt_of_le (by decide) (nI_pos' hj)
    | succ m =>
      rw [show nI (m + 1) - nI 1 = nI m from nI_pred m]
      have a := nI_ltI (show m < 2 ^ 31 by omega) hj
      have b := nI_ltI hj (show m + 1 < 2 ^ 31 by omega)
      exact ⟨fun z => ⟨h, fun w => by have := b.mp z.2; have := a.mp w; omega⟩, fun z => ⟨h, b.mpr (by have : ¬ m < j := fun w => z.2 (a.mpr w); omega)⟩⟩
theorem Rel_pairAt (h : Rel K n x y) (hK : K < 2 ^ 30) {q : Nat} (hq : q < 2 ^ 31) (hqt : nI q < tlC x n) : q < 2 ^ 30 ∧ (∀ k, k ≤ q → selO (selS (mfS y (x 9) n) n q k) n n ≠ 0) ∧ pW (tlS x n) n 152 (nI q) = nI (100 * ((selO (selS (mfS y (x 9) n) n q q) n n - 1) / 24) + (selO (selS (mfS y (x 9) n) n q q) n n - 1) % 24) ∧ Rel K n (tlS x n) (selS (mfS y (x 9) n) n q (q + 1)) := by
  have n24 := h.n24
  have gx := h.gX
  have gy := h.gY hK
  have l := ct_len (P := cPos (Wf x n)) 601
  rw [tlC_ct n24 gx, nI_ltI hq (by omega)] at hqt
  have s := sel_ans n24 (mfS_good n24 gy) hqt
  refine ⟨by omega, fun k hk => (s k hk).1, ?_, (Rel_pairs h hK).1.same (fun _ _ => rfl) (fun a ha => selS_o ha (q + 1))⟩
  obtain ⟨-, s2, s3, s4⟩ := s q (Nat.le_refl _)
  have hgt : ct (cGt (Wf x n) 152) 601 = 0 := ct_to (m := 0) (Nat.zero_le _) (fun a _ _ => decide_eq_false (by have := gx.2.2 a; omega))
  obtain ⟨a, a1, a2, a3⟩ := pW_at n24 (gx.to (fun _ ha => tlS_o ha)) (fun s h1 h2 => tlS_ct n24 gx h1 h2) hqt 152 q (Nat.le_refl _) hq (by omega)
  rw [a3, rk_inj a1 s2 (a2.trans s4.symm)]
end BOTH
