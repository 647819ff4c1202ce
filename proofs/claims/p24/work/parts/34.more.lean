/-! the rest of the class's answers are the reference's -/
theorem nI_mulN (a b : Nat) : nI a * nI b = nI (a * b) := (Int32.ofNat_mul a b).symm
theorem isAh_congr {b b' : Nat → Int32} {i j : Nat} (hi : b i = b' i) (hj : b j = b' j) : isAh b i j = isAh b' i j := by unfold isAh; rw [hi, hj]
theorem prefF_congr {b b' : Nat → Int32} {g : Int32} {c n : Nat} (hc : c < n) (h : ∀ i, i < n → b i = b' i) : ∀ i, i ≤ n → prefF b g c i = prefF b' g c i
  | 0, _ => rfl
  | i + 1, hi => by
    rw [prefF, prefF, prefF_congr hc h i (by omega), isAh_congr (h i (by omega)) (h _ (prefF_lt (b := b') (g := g) hc i (by omega)))]
theorem orM_eq {g : Int32} {s s' : Nat → Int32} {n : Nat} (h : ∀ i, i < n → s i = s' i) : ∀ i, i ≤ n → orF g s i = orM g s' i
  | 0, _ => rfl
  | i + 1, hi => by
    rw [orF, orM, ← orM_eq h i (by omega), h i (by omega)]
    by_cases q : hasB g i = true
    · rw [if_pos q, if_pos q]
    · rw [if_neg q, if_neg q, nI_0, Int32.or_zero]
theorem cntM_eq {q : Nat → Bool} : ∀ i, cntF q i = cntM q i
  | 0 => rfl
  | i + 1 => by
    rw [cntF, cntM, ← cntM_eq i]
    by_cases h : q i = true
    · rw [if_pos h, if_pos h]
    · rw [if_neg h, if_neg h, nI_0, Int32.add_zero]
section RL4
variable {K n : Nat} {x y : Nat → Nat → Int32}
theorem Rel.pref (h : Rel K n x y) {c : Nat} {g : Int32} (hc : c < n) : prefF (x 4) g c n = prefF (y 1) g c n := prefF_congr hc (fun _ hi => h.book hi) n (Nat.le_refl _)
theorem Rel.orE (h : Rel K n x y) {g : Int32} {k : Nat} (hk : k < 2) : orF g (x (k + 16)) n = orM g (fun j => y 3 (6 * j + k)) n := orM_eq (fun i hi => h.mine (by have := h.n24; omega) hk) n (Nat.le_refl _)
theorem Rel_tk {k v : Nat} {g : Int32} (h : Rel K n x y) (hk : k < 2) : ∀ i, i ≤ n → Rel (K + i) n (tkS x g k v i) (mtkS y n g k v i) ∧ tkC x g k v i = mtkC y n g k v i
  | 0, _ => ⟨h, rfl⟩
  | i + 1, hi => by
    obtain ⟨r, e⟩ := Rel_tk (v := v) (g := g) h hk i (by omega)
    have n24 := h.n24
    have ev := r.mine (c := i) (k := k) (by omega) hk
    rw [tkS, mtkS, tkC, mtkC, ev, e]
    by_cases q : (hasB g i && hasB (mtkS y n g k v i 3 (6 * i + k)) v) = true
    · simp only [if_pos q]
      refine ⟨Rel_putS r (by omega) (by decide) hk ?_, trivial⟩
      rw [← ev]
      exact fit30_sub (r.mineF (by omega) hk)
    · simp only [if_neg q]
      exact ⟨r.more (by omega), trivial⟩
theorem Rel_ed {c k w : Nat} (h : Rel K n x y) (hc : c < n) (hk : k < 2) (hw : w < 30) : Rel (K + 1) n (putS x (prefF (x 4) (x 9 c) c n) 0 k (x (k + 16) (prefF (x 4) (x 9 c) c n) ||| bit w)) (mputS y n (prefF (y 1) (x 9 c) c n) 0 k (y 3 (6 * prefF (y 1) (x 9 c) c n + k) ||| bit w)) := by
  have n24 := h.n24
  rw [h.pref hc]
  have l := prefF_lt (b := y 1) (g := x 9 c) hc n (Nat.le_refl _)
  rw [← h.mine (by omega) hk]
  exact Rel_putS h l (by decide) hk (fit30_obit (h.mineF (by omega) hk) hw)
theorem relL_add (hn : n < 24) (h : relL n x y) : relL (n + 1) x y := by
  obtain ⟨h1, h2, h3, h4⟩ := h
  have hem : ∀ j, j < 32 → hasB (x 8 n) j = false := fun j hj => Bool.eq_false_iff.mpr fun q => absurd (h2 n j hn hj q).1 (Nat.lt_irrefl _)
  refine ⟨h1, fun c j hc hj q => ?_, fun c hc => ?_, fun c hc hc2 => h4 c (by omega) hc2⟩
  · obtain ⟨a, b, d⟩ := h2 c j hc hj q
    exact ⟨by omega, by omega, d⟩
  · by_cases e : c = n
    · subst e
      rw [h4 c (Nat.le_refl _) hn]
      refine ⟨by rw [hb_bit (by omega) (by omega)]; simp, fun i hi q j hj ql => ?_, fun S hS _ j hj q => ?_⟩
      · rw [hb_bit (by omega) (by omega)] at q
        have := of_decide_eq_true q
        subst this
        rw [hem j hj] at ql
        cases ql
      · rw [hb_bit (by omega) hj] at q
        have := of_decide_eq_true q
        subst this
        exact hS
    · obtain ⟨g1, g2, g3⟩ := h3 c (by omega)
      refine ⟨g1, fun i hi q j hj ql => ?_, fun S hS hcl j hj q => g3 S hS (fun i hi => hcl i (by omega)) j hj q⟩
      by_cases e2 : i = n
      · subst e2
        rw [hem j hj] at ql
        cases ql
      · exact g2 i (by omega) q j hj ql
theorem Rel_add {b w : Int32} (h : Rel K n x y) (hn : n < 24) : Rel K (n + 1) (appE x n b w) (mappE y n b w) := by
  obtain ⟨-, ⟨a1, a2, a3⟩, hL, mc, f1, f2, f3⟩ := h
  have ux : ∀ a, a ≠ 4 → a ≠ 13 → a ≠ 14 → a ≠ 15 → appE x n b w a = x a := fun a h1 h2 h3 h4 => by
    funext i; unfold appE; rw [up2_k h4, up2_k h3, up2_k h2, up2_k h1]
  have uy : ∀ a, a ≠ 1 → a ≠ 2 → mappE y n b w a = y a := fun a h1 h2 => by
    funext i; unfold mappE; rw [up2_k h2, up2_k h2, up2_k h2, up2_k h1]
  refine ⟨by omega, ⟨fun i hi => ?_, fun i v hi hv => ?_, fun i v k hi hv hk => ?_⟩, (relL_add hn hL).same (ux 8 (by decide) (by decide) (by decide) (by decide)) (ux 9 (by decide) (by decide) (by decide) (by decide)) (uy 4 (by decide) (by decide)), mc, ?_⟩
  · unfold appE mappE
    rw [up2_k (show (4 : Nat) ≠ 15 by decide), up2_k (show (4 : Nat) ≠ 14 by decide), up2_k (show (4 : Nat) ≠ 13 by decide), up2_k (show (1 : Nat) ≠ 2 by decide), up2_k (show (1 : Nat) ≠ 2 by decide), up2_k (show (1 : Nat) ≠ 2 by decide)]
    by_cases e : i = n
    · subst e; rw [up2_self, up2_self]
    · rw [up2_i e, up2_i e]; exact a1 i (by omega)
  · unfold appE mappE up2
    by_cases e : i = n
    · subst e
      rcases (by omega : v = 0 ∨ v = 1 ∨ v = 2) with rfl | rfl | rfl <;> simp
    · have := a2 i v (by omega) hv
      rcases (by omega : v = 0 ∨ v = 1 ∨ v = 2) with rfl | rfl | rfl
      · rw [if_neg (by omega), if_neg (by omega), if_neg (by omega), if_neg (by omega), if_neg (by omega), if_neg (by omega), if_neg (by omega), if_neg (by omega)]; exact this
      · rw [if_neg (by omega), if_neg (by omega), if_neg (by omega), if_neg (by omega), if_neg (by omega), if_neg (by omega), if_neg (by omega), if_neg (by omega)]; exact this
      · rw [if_neg (by omega), if_neg (by omega), if_neg (by omega), if_neg (by omega), if_neg (by omega), if_neg (by omega), if_neg (by omega), if_neg (by omega)]; exact this
  · rw [ux _ (by omega) (by omega) (by omega) (by omega), uy 3 (by decide) (by decide)]; exact a3 i v k hi hv hk
  · refine relF.same (x := x) (y := y) ⟨f1, f2, fun a b ha hb => ?_⟩ (ux 7 (by decide) (by decide) (by decide) (by decide)) (ux 10 (by decide) (by decide) (by decide) (by decide)) (fun a _ => ux _ (by omega) (by omega) (by omega) (by omega)) (uy 5 (by decide) (by decide)) (uy 6 (by decide) (by decide))
    rcases f3 a b ha hb with q | ⟨q1, q2, q3⟩
    · exact Or.inl q
    · exact Or.inr ⟨by omega, by omega, q3⟩
theorem Rel.nmI (h : Rel K n x y) {c : Nat} (hc : c < n) : x 13 c = y 2 (3 * c) := h.name (v := 0) hc (by decide)
theorem Rel.shE (h : Rel K n x y) {c d k : Nat} (hc : c < n) (hd : d < n) (hk : k < 2) : shr x c d k = cntV (y 3 (6 * c + k) &&& y 3 (6 * d + k)) 30 := by
  have n24 := h.n24
  unfold shr
  rw [cnt_eq (fit30_and (h.mineF (by omega) hk) (h.mineF (by omega) hk)), h.mine (by omega) hk, h.mine (by omega) hk]
theorem Rel.scE (h : Rel K n x y) {c d : Nat} (hc : c < n) (hd : d < n) : sc x c d = msc y (x 9) c d := by
  unfold sc msc alk
  rw [h.shE hc hd (by decide), h.shE hc hd (by decide), h.nmI hc, h.nmI hd]
  by_cases q : hasB (x 9 c) d = true
  · rw [if_pos q, if_pos q]
  · rw [if_neg q, if_neg q]
    by_cases q2 : y 2 (3 * c) = y 2 (3 * d)
    · rw [if_pos q2, if_pos q2]; rfl
    · rw [if_neg q2, if_neg q2, nI_0, Int32.add_zero]; rfl
theorem Rel.sc_le (h : Rel K n x y) {c d : Nat} (hc : c < n) (hd : d < n) : ∃ k, k ≤ 152 ∧ sc x c d = nI k := by
  have n24 := h.n24
  obtain ⟨a, ha, ea⟩ := cnt_le (fit30_and (h.mineF (c := c) (k := 0) (by omega) (by decide)) (h.mineF (c := d) (k := 0) (by omega) (by decide)))
  obtain ⟨b, hb, eb⟩ := cnt_le (fit30_and (h.mineF (c := c) (k := 1) (by omega) (by decide)) (h.mineF (c := d) (k := 1) (by omega) (by decide)))
  unfold sc shr
  rw [ea, eb, nI_mulN, nI_mulN, nI_add, nI_add]
  split
  · exact ⟨0, by decide, rfl⟩
  · split
    · exact ⟨_, by omega, rfl⟩
    · exact ⟨_, by omega, rfl⟩
theorem Rel.stale (h : Rel K n x y) (hK : K < 2 ^ 30) {c d : Nat} (hc : c < n) (hd : d < n) : staB x c d (mcOf x c d) = (hasB (y 5 c) d || hasB (y 6 c) d) := by
  obtain ⟨hn, -, -, mc, f1, f2, f3⟩ := h
  unfold staB mcOf
  rw [f1 c (by omega), (f2 c (by omega)).1, (f2 d (by omega)).1, nI_add]
  have k1 := (f2 c (by omega)).2
  have k2 := (f2 d (by omega)).2
  congr 1
  rcases f3 c d (by omega) (by omega) with ⟨q1, q2⟩ | ⟨q1, q2, t, q3, q4, q5⟩
  · rw [q1, q2]
    apply decide_eq_false
    intro e
    have : nI (mc c + mc d) < 0 := by rw [← e]; decide
    exact nI_pos (by omega) this
  · rw [q3, q5]
    by_cases e : t = mc c + mc d
    · rw [decide_eq_true e, e]; simp
    · rw [decide_eq_false e]
      exact decide_eq_false fun q => e ((nI_eq (by omega) (by omega)).mp q)
theorem Rel.sgE (h : Rel K n x y) (hK : K < 2 ^ 30) {c d : Nat} (hc : c < n) (hd : d < n) : sg x c d = if (hasB (y 5 c) d || hasB (y 6 c) d) = true then nI 0 else msc y (x 9) c d := by
  unfold sg
  rw [h.stale hK hc hd, h.scE hc hd]
theorem Rel.sgV (h : Rel K n x y) (hK : K < 2 ^ 30) {c d : Nat} (hc : c < n) (hd : d < n) : sg x c d = fV y (x 9) c d := by
  rw [h.sgE hK hc hd]
  unfold fV fndB msc
  cases hasB (x 9 c) d <;> cases hasB (y 5 c) d <;> cases hasB (y 6 c) d <;> rfl
theorem Rel.sg_le (h : Rel K n x y) {c d : Nat} (hc : c < n) (hd : d < n) : ∃ k, k ≤ 152 ∧ sg x c d = nI k := by
  unfold sg
  split
  · exact ⟨0, by decide, rfl⟩
  · exact h.sc_le hc hd
theorem Rel.sug (h : Rel K n x y) (hK : K < 2 ^ 30) {c d : Nat} (hc : c < n) (hd : d < n) : msug y (x 9) c d = decide (¬ sg x c d = 0) := by
  obtain ⟨k, hk, ek⟩ := h.sc_le hc hd
  rw [h.sgE hK hc hd, ← h.scE hc hd, msug, ← h.scE hc hd, ek]
  cases hasB (y 5 c) d <;> cases hasB (y 6 c) d
  · simp [nI_gt0 (show k < 2 ^ 31 by omega), nI_0iff (show k < 2 ^ 31 by omega)]
  · simp [nI_0]
  · simp [nI_0]
  · simp [nI_0]
/-- a suggested pair is turned down -/
theorem tdG_o {c d a : Nat} {s1 s2 t1 t2 : Int32} (h5 : a ≠ 5) (h6 : a ≠ 6) : tdG y c d s1 s2 t1 t2 a = y a := by
  funext i; unfold tdG; rw [up2_k h6, up2_k h6, up2_k h5, up2_k h5]
theorem tdG_5 {c d i : Nat} {s1 s2 t1 t2 : Int32} (hne : c ≠ d) : tdG y c d s1 s2 t1 t2 5 i = if i = d then y 5 d ||| s2 else if i = c then y 5 c ||| s1 else y 5 i := by
  unfold tdG
  rw [up2_k (by decide), up2_k (by decide)]
  by_cases e : i = d
  · subst e
    rw [up2_self, if_pos rfl, up2_i (Ne.symm hne)]
  · rw [up2_i e, if_neg e]
    by_cases e2 : i = c
    · subst e2; rw [up2_self, if_pos rfl]
    · rw [up2_i e2, if_neg e2]
theorem tdG_6 {c d i : Nat} {s1 s2 t1 t2 : Int32} (hne : c ≠ d) : tdG y c d s1 s2 t1 t2 6 i = if i = d then y 6 d ||| t2 else if i = c then y 6 c ||| t1 else y 6 i := by
  unfold tdG
  by_cases e : i = d
  · subst e
    rw [up2_self, if_pos rfl, up2_i (Ne.symm hne), up2_k (by decide), up2_k (by decide)]
  · rw [up2_i e, if_neg e]
    by_cases e2 : i = c
    · subst e2; rw [up2_self, if_pos rfl, up2_k (by decide), up2_k (by decide)]
    · rw [up2_i e2, if_neg e2, up2_k (by decide), up2_k (by decide)]
theorem Rel_rfg {c d : Nat} (h : Rel K n x y) (hc : c < n) (hd : d < n) (hne : c ≠ d) : Rel K n (rfgX x c d) (tdG y c d (bit d) (bit c) (nI 0) (nI 0)) := by
  obtain ⟨hn, ⟨a1, a2, a3⟩, hL, mc, f1, f2, f3⟩ := h
  have ux : ∀ a, a ≠ 10 → rfgX x c d a = x a := fun a h1 => by funext i; unfold rfgX; rw [up2_k h1, up2_k h1]
  have u6 : tdG y c d (bit d) (bit c) (nI 0) (nI 0) 6 = y 6 := by
    funext i
    rw [tdG_6 hne, nI_0, Int32.or_zero, Int32.or_zero]
    split
    · subst_vars; rfl
    · split
      · subst_vars; rfl
      · rfl
  refine ⟨hn, ⟨fun i hi => ?_, fun i v hi hv => ?_, fun i v k hi hv hk => ?_⟩, hL.same (ux 8 (by decide)) (ux 9 (by decide)) (tdG_o (by decide) (by decide)), mc, fun i hi => ?_, fun i hi => ?_, fun a b ha hb => ?_⟩
  · rw [ux 4 (by decide), tdG_o (by decide) (by decide)]; exact a1 i hi
  · rw [ux _ (by omega), tdG_o (by decide) (by decide)]; exact a2 i v hi hv
  · rw [ux _ (by omega), tdG_o (by decide) (by decide)]; exact a3 i v k hi hv hk
  · rw [tdG_5 hne]
    unfold rfgX
    by_cases e : i = d
    · subst e
      rw [up2_self, if_pos rfl, up2_i (Ne.symm hne), f1 i hi]
    · rw [up2_i e, if_neg e]
      by_cases e2 : i = c
      · subst e2; rw [up2_self, if_pos rfl, f1 i hi]
      · rw [up2_i e2, if_neg e2, f1 i hi]
  · rw [ux 7 (by decide)]; exact f2 i hi
  · have := f3 a b ha hb
    unfold fN at *
    rw [ux _ (by omega), u6]
    exact this
theorem Rel_rfn {c d : Nat} (h : Rel K n x y) (hc : c < n) (hd : d < n) (hne : c ≠ d) : Rel K n (rfnX x c d (mcOf x c d)) (tdG y c d (nI 0) (nI 0) (bit d) (bit c)) := by
  obtain ⟨hn, ⟨a1, a2, a3⟩, hL, mc, f1, f2, f3⟩ := h
  have ux : ∀ a, a < 22 → rfnX x c d (mcOf x c d) a = x a := fun a h1 => by funext i; unfold rfnX; rw [up2_k (by omega), up2_k (by omega)]
  have u5 : tdG y c d (nI 0) (nI 0) (bit d) (bit c) 5 = y 5 := by
    funext i
    rw [tdG_5 hne, nI_0, Int32.or_zero, Int32.or_zero]
    split
    · subst_vars; rfl
    · split
      · subst_vars; rfl
      · rfl
  have ew : mcOf x c d = nI (mc c + mc d) := by
    unfold mcOf
    rw [(f2 c (by omega)).1, (f2 d (by omega)).1, nI_add]
  refine ⟨hn, ⟨fun i hi => ?_, fun i v hi hv => ?_, fun i v k hi hv hk => ?_⟩, hL.same (ux 8 (by decide)) (ux 9 (by decide)) (tdG_o (by decide) (by decide)), mc, fun i hi => ?_, fun i hi => ?_, fun a b ha hb => ?_⟩
  · rw [ux 4 (by decide), tdG_o (by decide) (by decide)]; exact a1 i hi
  · rw [ux _ (by omega), tdG_o (by decide) (by decide)]; exact a2 i v hi hv
  · rw [ux _ (by omega), tdG_o (by decide) (by decide)]; exact a3 i v k hi hv hk
  · rw [ux 10 (by decide), u5]; exact f1 i hi
  · rw [ux 7 (by decide)]; exact f2 i hi
  · have h0 := f3 a b ha hb
    unfold fN at *
    rw [tdG_6 hne, ew]
    unfold rfnX
    by_cases e : a = d
    · subst e
      rw [if_pos rfl, hb_or (by omega), hb_bit (by omega) (by omega)]
      by_cases e2 : b = c
      · subst e2
        rw [up2_self]
        refine Or.inr ⟨hd, hc, mc b + mc a, rfl, by omega, ?_⟩
        simp [Nat.add_comm]
      · rw [up2_i e2, up2_k (by omega), decide_eq_false (Ne.symm e2), Bool.or_false]
        exact h0
    · rw [if_neg e, up2_k (by omega)]
      by_cases e2 : a = c
      · subst e2
        rw [if_pos rfl, hb_or (by omega), hb_bit (by omega) (by omega)]
        by_cases e3 : b = d
        · subst e3
          rw [up2_self]
          refine Or.inr ⟨hc, hd, mc a + mc b, rfl, by omega, ?_⟩
          simp
        · rw [up2_i e3, decide_eq_false (Ne.symm e3), Bool.or_false]
          exact h0
      · rw [if_neg e2, up2_k (by omega)]
        exact h0
end RL4
