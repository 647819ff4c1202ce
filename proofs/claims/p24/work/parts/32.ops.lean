/-! EVERY CALL keeps the relation, and both answers are one: cards -/
theorem Rel.book {K n : Nat} {x y : Nat → Nat → Int32} (h : Rel K n x y) {c : Nat} (hc : c < n) : x 4 c = y 1 c := h.2.1.1 c hc
theorem Rel.name {K n : Nat} {x y : Nat → Nat → Int32} (h : Rel K n x y) {c v : Nat} (hc : c < n) (hv : v < 3) : x (v + 13) c = y 2 (3 * c + v) := h.2.1.2.1 c v hc hv
theorem Rel.set {K n : Nat} {x y : Nat → Nat → Int32} (h : Rel K n x y) {c v k : Nat} (hc : c < 24) (hv : v < 3) (hk : k < 2) : x (2 * v + k + 16) c = y 3 (6 * c + 2 * v + k) := (h.2.1.2.2 c v k hc hv hk).1
theorem Rel.fit {K n : Nat} {x y : Nat → Nat → Int32} (h : Rel K n x y) {c v k : Nat} (hc : c < 24) (hv : v < 3) (hk : k < 2) : fit30 (x (2 * v + k + 16) c) := (h.2.1.2.2 c v k hc hv hk).2
theorem Rel.n24 {K n : Nat} {x y : Nat → Nat → Int32} (h : Rel K n x y) : n ≤ 24 := h.1
theorem Rel.mine {K n : Nat} {x y : Nat → Nat → Int32} (h : Rel K n x y) {c k : Nat} (hc : c < 24) (hk : k < 2) : x (k + 16) c = y 3 (6 * c + k) := by
  have := h.set (v := 0) hc (by decide) hk
  rwa [show 2 * 0 + k + 16 = k + 16 by omega, show 6 * c + 2 * 0 + k = 6 * c + k by omega] at this
theorem Rel.mineF {K n : Nat} {x y : Nat → Nat → Int32} (h : Rel K n x y) {c k : Nat} (hc : c < 24) (hk : k < 2) : fit30 (x (k + 16) c) := by
  have := h.fit (v := 0) hc (by decide) hk
  rwa [show 2 * 0 + k + 16 = k + 16 by omega] at this
theorem Rel.theirs {K n : Nat} {x y : Nat → Nat → Int32} (h : Rel K n x y) {c k : Nat} (hc : c < 24) (hk : k < 2) : x (k + 18) c = y 3 (6 * c + k + 2) ∧ fit30 (x (k + 18) c) := by
  have h1 := h.set (v := 1) hc (by decide) hk
  have h2 := h.fit (v := 1) hc (by decide) hk
  rw [show 2 * 1 + k + 16 = k + 18 by omega] at h1 h2
  rw [show 6 * c + 2 * 1 + k = 6 * c + k + 2 by omega] at h1
  exact ⟨h1, h2⟩
theorem Rel.base {K n : Nat} {x y : Nat → Nat → Int32} (h : Rel K n x y) {c k : Nat} (hc : c < 24) (hk : k < 2) : x (k + 20) c = y 3 (6 * c + k + 4) ∧ fit30 (x (k + 20) c) := by
  have h1 := h.set (v := 2) hc (by decide) hk
  have h2 := h.fit (v := 2) hc (by decide) hk
  rw [show 2 * 2 + k + 16 = k + 20 by omega] at h1 h2
  rw [show 6 * c + 2 * 2 + k = 6 * c + k + 4 by omega] at h1
  exact ⟨h1, h2⟩
theorem fit30_bits {a : Int32} (h30 : hasB a 30 = false) (h31 : hasB a 31 = false) : fit30 a := fit30_iff.mpr ⟨h30, h31⟩
theorem fit30_mrg {m t b : Int32} (hm : fit30 m) (ht : fit30 t) : fit30 (mrg m t b) := by
  obtain ⟨m1, m2⟩ := fit30_iff.mp hm
  obtain ⟨t1, t2⟩ := fit30_iff.mp ht
  unfold mrg
  refine fit30_bits ?_ ?_
  · rw [hb_or (by decide), hb_and (by decide), hb_and (by decide), hb_xor (by decide), m1, t1]; rfl
  · rw [hb_or (by decide), hb_and (by decide), hb_and (by decide), hb_xor (by decide), m2, t2]; rfl
theorem fit30_xbit {a : Int32} {w : Nat} (ha : fit30 a) (hw : w < 30) : fit30 (a ^^^ bit w) := by
  obtain ⟨m1, m2⟩ := fit30_iff.mp ha
  refine fit30_bits ?_ ?_
  · rw [hb_xor (by decide), m1, hb_bit (by omega) (by decide), decide_eq_false (by omega)]; rfl
  · rw [hb_xor (by decide), m2, hb_bit (by omega) (by decide), decide_eq_false (by omega)]; rfl
theorem fit30_obit {a : Int32} {w : Nat} (ha : fit30 a) (hw : w < 30) : fit30 (a ||| bit w) := by
  obtain ⟨m1, m2⟩ := fit30_iff.mp ha
  refine fit30_bits ?_ ?_
  · rw [hb_or (by decide), m1, hb_bit (by omega) (by decide), decide_eq_false (by omega)]; rfl
  · rw [hb_or (by decide), m2, hb_bit (by omega) (by decide), decide_eq_false (by omega)]; rfl
theorem fit30_sub {a b : Int32} (ha : fit30 a) : fit30 (a &&& b) := by
  obtain ⟨m1, m2⟩ := fit30_iff.mp ha
  refine fit30_bits ?_ ?_
  · rw [hb_and (by decide), m1]; rfl
  · rw [hb_and (by decide), m2]; rfl
theorem Rel.nmE {K n : Nat} {x y : Nat → Nat → Int32} (h : Rel K n x y) {c : Nat} (hc : c < n) : cNm x c = mNm y c := by
  have h0 := h.name (v := 0) hc (by decide)
  have h1 := h.name (v := 1) hc (by decide)
  have h2 := h.name (v := 2) hc (by decide)
  rw [show cNm x c = mrgN (x (0 + 13) c) (x (1 + 13) c) (x (2 + 13) c) from rfl, h0, h1, h2]
  rfl
theorem Rel.cl {K n : Nat} {x y : Nat → Nat → Int32} (h : Rel K n x y) {c : Nat} (hc : c < n) : clB (x 13 c) (x 14 c) (x 15 c) = mcl y c := by
  have h0 := h.name (v := 0) hc (by decide)
  have h1 := h.name (v := 1) hc (by decide)
  have h2 := h.name (v := 2) hc (by decide)
  rw [show clB (x 13 c) (x 14 c) (x 15 c) = clB (x (0 + 13) c) (x (1 + 13) c) (x (2 + 13) c) from rfl, h0, h1, h2]
  rfl
theorem Rel.stE {K n : Nat} {x y : Nat → Nat → Int32} (h : Rel K n x y) {c k : Nat} (hc : c < 24) (hk : k < 2) : cSt x c k = mSt y c k ∧ fit30 (cSt x c k) := by
  have h0 := h.mine hc hk
  have h1 := h.theirs hc hk
  have h2 := h.base hc hk
  refine ⟨?_, fit30_mrg (h.mineF hc hk) h1.2⟩
  show mrg _ _ _ = mrg _ _ _
  rw [h0, h1.1, h2.1]
/-- what is read behind a put -/
theorem putN_v {x : Nat → Nat → Int32} {c v : Nat} {w : Int32} (r i : Nat) : putN x c v w r i = if r = v + 13 ∧ i = c then w else if r = 7 ∧ i = c ∧ v = 0 ∧ x (v + 13) c ≠ w then x 7 c + nI 1 else x r i := by
  unfold putN
  by_cases q : v = 0 ∧ x (v + 13) c ≠ w
  · rw [if_pos q]
    unfold up2
    by_cases e : r = v + 13 ∧ i = c
    · rw [if_pos e, if_pos e]
    · rw [if_neg e, if_neg e]
      by_cases e2 : r = 7 ∧ i = c
      · rw [if_pos e2, if_pos ⟨e2.1, e2.2, q⟩]
      · rw [if_neg e2, if_neg (fun z => e2 ⟨z.1, z.2.1⟩)]
  · rw [if_neg q]
    unfold up2
    by_cases e : r = v + 13 ∧ i = c
    · rw [if_pos e, if_pos e]
    · rw [if_neg e, if_neg e, if_neg (fun z => q z.2.2)]
theorem putS_v {x : Nat → Nat → Int32} {c v k : Nat} {w : Int32} (r i : Nat) : putS x c v k w r i = if r = 2 * v + k + 16 ∧ i = c then w else if r = 7 ∧ i = c ∧ v = 0 ∧ x (2 * v + k + 16) c ≠ w then x 7 c + nI 1 else x r i := by
  unfold putS
  by_cases q : v = 0 ∧ x (2 * v + k + 16) c ≠ w
  · rw [if_pos q]
    unfold up2
    by_cases e : r = 2 * v + k + 16 ∧ i = c
    · rw [if_pos e, if_pos e]
    · rw [if_neg e, if_neg e]
      by_cases e2 : r = 7 ∧ i = c
      · rw [if_pos e2, if_pos ⟨e2.1, e2.2, q⟩]
      · rw [if_neg e2, if_neg (fun z => e2 ⟨z.1, z.2.1⟩)]
  · rw [if_neg q]
    unfold up2
    by_cases e : r = 2 * v + k + 16 ∧ i = c
    · rw [if_pos e, if_pos e]
    · rw [if_neg e, if_neg e, if_neg (fun z => q z.2.2)]
theorem put_comm {x : Nat → Nat → Int32} {c v k : Nat} {w a : Int32} (hv : v < 3) (hk : k < 2) : putS (putN x c v w) c v k a = putN (putS x c v k a) c v w := by
  funext r i
  have e1 : putN x c v w (2 * v + k + 16) c = x (2 * v + k + 16) c := by rw [putN_v, if_neg (by omega), if_neg (by omega)]
  have e2 : putS x c v k a (v + 13) c = x (v + 13) c := by rw [putS_v, if_neg (by omega), if_neg (by omega)]
  rw [putS_v (x := putN x c v w) r i, putN_v (x := putS x c v k a) r i, e1, e2]
  by_cases h1 : r = 2 * v + k + 16 ∧ i = c
  · rw [if_pos h1, if_neg (by omega), if_neg (by omega), putS_v, if_pos h1]
  · rw [if_neg h1]
    by_cases h2 : r = v + 13 ∧ i = c
    · rw [if_pos h2, if_neg (by omega), putN_v, if_pos h2]
    · rw [if_neg h2]
      by_cases h3 : r = 7 ∧ i = c
      · obtain ⟨rfl, rfl⟩ := h3
        have pN : putN x i v w 7 i = if v = 0 ∧ x (v + 13) i ≠ w then x 7 i + nI 1 else x 7 i := by
          rw [putN_v, if_neg (by omega)]
          by_cases q : v = 0 ∧ x (v + 13) i ≠ w
          · rw [if_pos ⟨rfl, rfl, q⟩, if_pos q]
          · rw [if_neg (fun z => q z.2.2), if_neg q]
        have pS : putS x i v k a 7 i = if v = 0 ∧ x (2 * v + k + 16) i ≠ a then x 7 i + nI 1 else x 7 i := by
          rw [putS_v, if_neg (by omega)]
          by_cases q : v = 0 ∧ x (2 * v + k + 16) i ≠ a
          · rw [if_pos ⟨rfl, rfl, q⟩, if_pos q]
          · rw [if_neg (fun z => q z.2.2), if_neg q]
        by_cases q1 : v = 0 ∧ x (2 * v + k + 16) i ≠ a
        · rw [if_pos ⟨rfl, rfl, q1⟩, pN, pS, if_pos q1]
          by_cases q2 : v = 0 ∧ x (v + 13) i ≠ w
          · rw [if_pos q2, if_pos ⟨rfl, rfl, q2⟩]
          · rw [if_neg q2, if_neg (fun z => q2 z.2.2)]
        · rw [if_neg (fun z => q1 z.2.2), pN, pS, if_neg q1]
          by_cases q2 : v = 0 ∧ x (v + 13) i ≠ w
          · rw [if_pos q2, if_pos ⟨rfl, rfl, q2⟩]
          · rw [if_neg q2, if_neg (fun z => q2 z.2.2)]
      · rw [if_neg (fun z => h3 ⟨z.1, z.2.1⟩), if_neg (fun z => h3 ⟨z.1, z.2.1⟩), putN_v, putS_v, if_neg h2, if_neg (fun z => h3 ⟨z.1, z.2.1⟩), if_neg h1, if_neg (fun z => h3 ⟨z.1, z.2.1⟩)]
theorem putV_comm {x : Nat → Nat → Int32} {c v : Nat} {w a b : Int32} (hv : v < 3) : putV x c v w a b = putN (putS (putS x c v 0 a) c v 1 b) c v w := by
  unfold putV
  rw [put_comm hv (by decide), put_comm hv (by decide)]
theorem Rel_putV {K n c v : Nat} {x y : Nat → Nat → Int32} {w a b : Int32} (h : Rel K n x y) (hc : c < n) (hv : v < 3) (ha : fit30 a) (hb : fit30 b) : Rel (K + 3) n (putV x c v w a b) (mputV y n c v w a b) := by
  rw [putV_comm hv]
  exact Rel_putN (Rel_putS (Rel_putS h hc hv (by decide) ha) hc hv (by decide) hb) hc hv
theorem Rel_merge {K n c : Nat} {x y : Nat → Nat → Int32} (h : Rel K n x y) (hc : c < n) : Rel (K + 9) n (mergeV x c) (mmergeV y n c) := by
  have hn := h.n24
  have s0 := h.stE (c := c) (k := 0) (by omega) (by decide)
  have s1 := h.stE (c := c) (k := 1) (by omega) (by decide)
  unfold mergeV mmergeV
  rw [← s0.1, ← s1.1, ← h.nmE hc]
  exact Rel_putV (Rel_putV (Rel_putV h hc (by decide) s0.2 s1.2) hc (by decide) s0.2 s1.2) hc (by decide) s0.2 s1.2
theorem Rel_sync {K n : Nat} {x y : Nat → Nat → Int32} {b : Int32} (h : Rel K n x y) : ∀ i, i ≤ n → Rel (K + 9 * i) n (syS x b i) (msyS y n b i) ∧ syC x b i = msyC y n b i
  | 0, _ => ⟨h, rfl⟩
  | i + 1, hi => by
    obtain ⟨h1, h2⟩ := Rel_sync (b := b) h i (by omega)
    have hb := h1.book (c := i) (by omega)
    have hcl := h1.cl (c := i) (by omega)
    rw [syS, msyS, syC, msyC, ← hb, h2, hcl]
    by_cases e : syS x b i 4 i = b
    · rw [if_pos e, if_pos e, if_pos e]
      refine ⟨(Rel_merge h1 (by omega)).more (by omega), ?_⟩
      by_cases q : mcl (msyS y n b i) i = true
      · rw [if_pos ⟨e, q⟩, if_pos q]
      · rw [if_neg (fun z => q z.2), if_neg q]
        show _ = _ + (nI 0)
        rw [nI_0, Int32.add_zero]
    · rw [if_neg e, if_neg e, if_neg e, if_neg (fun z => e z.1)]
      exact ⟨h1.more (by omega), rfl⟩
theorem Rel_syn {K n c : Nat} {x y : Nat → Nat → Int32} (h : Rel K n x y) (hc : c < n) : synB x c = msynB y c := by
  have hn := h.n24
  have a0 := h.name (v := 0) hc (by decide)
  have a1 := h.name (v := 1) hc (by decide)
  have a2 := h.name (v := 2) hc (by decide)
  have b0 := h.mine (c := c) (k := 0) (by omega) (by decide)
  have b1 := h.mine (c := c) (k := 1) (by omega) (by decide)
  have c0 := (h.theirs (c := c) (k := 0) (by omega) (by decide)).1
  have c1 := (h.theirs (c := c) (k := 1) (by omega) (by decide)).1
  have d0 := (h.base (c := c) (k := 0) (by omega) (by decide)).1
  have d1 := (h.base (c := c) (k := 1) (by omega) (by decide)).1
  have s0 := (h.stE (c := c) (k := 0) (by omega) (by decide)).1
  have s1 := (h.stE (c := c) (k := 1) (by omega) (by decide)).1
  have e := h.nmE hc
  have u : synB x c = (decide (x (0 + 13) c = cNm x c) && decide (x (0 + 16) c = cSt x c 0) && decide (x (1 + 16) c = cSt x c 1) && (decide (x (1 + 13) c = cNm x c) && decide (x (0 + 18) c = cSt x c 0) && decide (x (1 + 18) c = cSt x c 1)) && (decide (x (2 + 13) c = cNm x c) && decide (x (0 + 20) c = cSt x c 0) && decide (x (1 + 20) c = cSt x c 1))) := rfl
  rw [u, a0, a1, a2, b0, b1, c0, c1, d0, d1, s0, s1, e]
  unfold msynB
  simp only [Nat.add_zero, Bool.and_assoc]
theorem Rel_us {K n : Nat} {x y : Nat → Nat → Int32} {b : Int32} (h : Rel K n x y) : ∀ i, i ≤ n → usC x b i = musC y b i
  | 0, _ => rfl
  | i + 1, hi => by
    rw [usC, musC, Rel_us h i (by omega), Rel_syn h (by omega), h.book (show i < n by omega)]
    split
    · rfl
    · rw [nI_0, Int32.add_zero]
/-- value by value -/
theorem byV_bit {m t b : Int32} {j : Nat} (hj : j < 32) : ∀ i, i ≤ 30 → hasB (byV m t b i) j = (decide (j < i) && byB (hasB m j) (hasB t j) (hasB b j))
  | 0, _ => by rw [byV, hb_0 hj]; simp
  | i + 1, h => by
    rw [byV]
    have ih := byV_bit (m := m) (t := t) (b := b) hj i (by omega)
    by_cases e : j = i
    · subst e
      by_cases q : byB (hasB m j) (hasB t j) (hasB b j) = true
      · rw [if_pos q, hb_or hj, hb_bit hj hj, q]; simp
      · rw [if_neg q, ih]; simp [q]
    · have e2 : decide (j < i + 1) = decide (j < i) := by rw [decide_eq_decide]; omega
      rw [e2, ← ih]
      split
      · rw [hb_or hj, hb_bit (by omega) hj, decide_eq_false (Ne.symm e), Bool.or_false]
      · rfl
theorem byV_eq {m t b : Int32} (hm : fit30 m) (ht : fit30 t) : byV m t b 30 = mrg m t b := by
  obtain ⟨m1, m2⟩ := fit30_iff.mp hm
  obtain ⟨t1, t2⟩ := fit30_iff.mp ht
  refine hb_ext fun j hj => ?_
  rw [byV_bit hj 30 (Nat.le_refl _)]
  unfold mrg
  rw [hb_or hj, hb_and hj, hb_and hj, hb_xor hj, hb_xor hj, hb_m1 hj]
  by_cases e : j < 30
  · rw [decide_eq_true e]
    unfold byB
    cases hasB m j <;> cases hasB t j <;> cases hasB b j <;> rfl
  · rcases (show j = 30 ∨ j = 31 by omega) with rfl | rfl
    · rw [m1, t1]; rfl
    · rw [m2, t2]; rfl
theorem Rel_turn {K n c v k w : Nat} {x y : Nat → Nat → Int32} (h : Rel K n x y) (hc : c < n) (hv : v < 2) (hk : k < 2) (hw : w < 30) : Rel (K + 1) n (putS x c v k (x (2 * v + k + 16) c ^^^ bit w)) (mputS y n c v k (y 3 (6 * c + 2 * v + k) ^^^ bit w)) ∧ hasB (x (2 * v + k + 16) c ^^^ bit w) w = hasB (mputS y n c v k (y 3 (6 * c + 2 * v + k) ^^^ bit w) 3 (6 * c + 2 * v + k)) w := by
  have hn := h.n24
  have e := h.set (c := c) (v := v) (k := k) (by omega) (by omega) hk
  rw [← e]
  refine ⟨Rel_putS h hc (by omega) hk (fit30_xbit (h.fit (by omega) (by omega) hk) hw), ?_⟩
  congr 1
  unfold mputS
  rw [up2_self]
