/-! WHAT THE LAW COMPARES -/
theorem hb_not {a : Int32} {j : Nat} (hj : j < 32) : hasB (a ^^^ (-1)) j = !hasB a j := by
  rw [hb_xor hj, hb_m1 hj]; cases hasB a j <;> rfl
theorem hb_zero {a : Int32} (h : ∀ j, j < 32 → hasB a j = false) : a = 0 := by
  rw [← nI_0]
  exact hb_ext fun j hj => by rw [h j hj, hb_0 hj]
theorem hb_nz {a : Int32} {j : Nat} (hj : j < 32) (h : hasB a j = true) : ¬ a = 0 := fun e => by
  rw [e, ← nI_0, hb_0 hj] at h
  cases h
theorem shb {s : Int32} {v : Nat} (hv : v < 32) : (s >>> (nI v &&& 31)) &&& nI 1 = bI (hasB s v) := by
  obtain ⟨t, ht, e⟩ := pk_andE (s >>> (nI v &&& 31)) (m := nI 1) 1 (by decide)
  cases h : hasB s v with
  | true => exact (mhas hv).mpr h
  | false =>
    have ht : t < 2 := ht
    rcases (by omega : t = 0 ∨ t = 1) with rfl | rfl
    · exact e
    · exact absurd ((mhas hv).mp e) (by rw [h]; decide)
theorem xbit_self {a : Int32} {w : Nat} (hw : w < 32) : hasB (a ^^^ bit w) w = !hasB a w := by
  rw [hb_xor hw, hb_bit hw hw, decide_eq_true (rfl : w = w)]; cases hasB a w <;> rfl
theorem bc_nat (a : Int32) : ∃ j, j < 64 ∧ bc a = nI j := pk_andE _ (m := nI 63) 6 (by decide)
/-! the preferred card -/
theorem isAh_iff {b : Nat → Int32} {i j : Nat} : isAh b i j = true ↔ ((b i).toInt < (b j).toInt ∨ ((b i).toInt = (b j).toInt ∧ i < j)) := by
  unfold isAh
  rw [decide_eq_true_iff, i_lt, i_eq]
theorem isAh_f {b : Nat → Int32} {i j : Nat} : isAh b i j = false ↔ ¬ ((b i).toInt < (b j).toInt ∨ ((b i).toInt = (b j).toInt ∧ i < j)) := by
  rw [← isAh_iff, Bool.not_eq_true]
theorem prefF_in {b : Nat → Int32} {g : Int32} {c : Nat} (h : hasB g c = true) : ∀ i, hasB g (prefF b g c i) = true
  | 0 => h
  | i + 1 => by
    rw [prefF]
    by_cases q : (hasB g i && isAh b i (prefF b g c i)) = true
    · rw [if_pos q]
      rw [Bool.and_eq_true] at q
      exact q.1
    · rw [if_neg q]
      exact prefF_in h i
theorem prefF_min {b : Nat → Int32} {g : Int32} {c : Nat} : ∀ m i, i < m → hasB g i = true → isAh b i (prefF b g c m) = false
  | 0, i, h, _ => absurd h (Nat.not_lt_zero _)
  | m + 1, i, h, hi => by
    have ih := prefF_min (b := b) (g := g) (c := c) m
    rw [prefF]
    by_cases q : (hasB g m && isAh b m (prefF b g c m)) = true
    · rw [if_pos q]
      rw [Bool.and_eq_true] at q
      by_cases e : i = m
      · rw [e, isAh_f]; omega
      · have h1 := ih i (by omega) hi
        have h2 := q.2
        rw [isAh_f] at h1 ⊢
        rw [isAh_iff] at h2
        omega
    · rw [if_neg q]
      by_cases e : i = m
      · rw [Bool.and_eq_true] at q
        rw [e] at hi ⊢
        exact Bool.eq_false_iff.mpr fun z => q ⟨hi, z⟩
      · exact ih i (by omega) hi
theorem prefF_id {b : Nat → Int32} {g : Int32} {d n : Nat} (h : ∀ i, i < n → hasB g i = true → isAh b i d = false) : ∀ m, m ≤ n → prefF b g d m = d
  | 0, _ => rfl
  | m + 1, hm => by
    rw [prefF, prefF_id h m (by omega), if_neg]
    intro q
    rw [Bool.and_eq_true] at q
    exact absurd q.2 (by rw [h m (by omega) q.1]; decide)
theorem mrg_bit {m t b : Int32} {j : Nat} (hj : j < 32) : hasB (mrg m t b) j = ((hasB m j && hasB t j) || ((hasB m j ^^ hasB t j) && !hasB b j)) := by
  unfold mrg
  rw [hb_or hj, hb_and hj, hb_and hj, hb_xor hj, hb_not hj]
theorem mg1 {m t b : Int32} : mrg m t b &&& ((m ||| t) ^^^ (-1)) = 0 := hb_zero fun j hj => by
  rw [hb_and hj, hb_not hj, hb_or hj, mrg_bit hj]; cases hasB m j <;> cases hasB t j <;> cases hasB b j <;> rfl
theorem mg2 {m t b : Int32} : (m &&& t) &&& (mrg m t b ^^^ (-1)) = 0 := hb_zero fun j hj => by
  rw [hb_and hj, hb_not hj, hb_and hj, mrg_bit hj]; cases hasB m j <;> cases hasB t j <;> cases hasB b j <;> rfl
theorem mg3 {m t b : Int32} : ((m ||| t) &&& (b ^^^ (-1))) &&& (mrg m t b ^^^ (-1)) = 0 := hb_zero fun j hj => by
  rw [hb_and hj, hb_not hj, hb_and hj, hb_or hj, hb_not hj, mrg_bit hj]; cases hasB m j <;> cases hasB t j <;> cases hasB b j <;> rfl
theorem mrg_same {a : Int32} : mrg a a a = a := hb_ext fun j hj => by rw [mrg_bit hj]; cases hasB a j <;> rfl
section FAC
variable {K n : Nat} {x : Nat → Nat → Int32}
theorem Gd.best (h : Gd K n x) {c : Nat} (hc : c < n) : prefF (x 4) (x 9 c) c n < n ∧ hasB (x 9 c) (prefF (x 4) (x 9 c) c n) = true ∧ x 9 (prefF (x 4) (x 9 c) c n) = x 9 c ∧ prefF (x 4) (x 9 (prefF (x 4) (x 9 c) c n)) (prefF (x 4) (x 9 c) c n) n = prefF (x 4) (x 9 c) c n := by
  have hb := prefF_lt (b := x 4) (g := x 9 c) hc n (Nat.le_refl _)
  have hi := prefF_in (b := x 4) (h.self hc) n
  have e := ((h.tog hc hb).mp hi).symm
  refine ⟨hb, hi, e, ?_⟩
  rw [e]
  exact prefF_id (fun i hi q => prefF_min n i hi q) n (Nat.le_refl _)
theorem Gd.mineIn (h : Gd K n x) {c k : Nat} (hc : c < n) : x (k + 16) c &&& (orF (x 9 c) (x (k + 16)) n ^^^ (-1)) = 0 := hb_zero fun j hj => by
  rw [hb_and hj, hb_not hj]
  cases q : hasB (x (k + 16) c) j with
  | false => rfl
  | true => rw [(orF_bit hj n).mpr ⟨c, hc, h.self hc, q⟩]; rfl
theorem Gd.byV (h : Gd K n x) {c k : Nat} (hc : c < 24) (hk : k < 2) : cSt x c k = byV (x (k + 16) c) (x (k + 18) c) (x (k + 20) c) 30 :=
  h.1.elim fun _ r => (byV_eq (r.mineF hc hk) (r.theirs hc hk).2).symm
/-! sync -/
theorem usC_nat {b : Int32} : ∀ m, ∃ k, k ≤ m ∧ usC x b m = nI k
  | 0 => ⟨0, Nat.le_refl _, rfl⟩
  | m + 1 => by
    obtain ⟨k, h1, h2⟩ := usC_nat (b := b) m
    rw [usC]
    split
    · exact ⟨k + 1, by omega, by rw [h2, nI_add]⟩
    · exact ⟨k, by omega, h2⟩
theorem syC_nat {b : Int32} : ∀ m, ∃ k, k ≤ m ∧ syC x b m = nI k
  | 0 => ⟨0, Nat.le_refl _, rfl⟩
  | m + 1 => by
    obtain ⟨k, h1, h2⟩ := syC_nat (b := b) m
    rw [syC]
    split
    · exact ⟨k + 1, by omega, by rw [h2, nI_add]⟩
    · exact ⟨k, by omega, h2⟩
theorem putV_i {c v r i : Nat} {w a b : Int32} (h : i ≠ c) : putV x c v w a b r i = x r i := by
  unfold putV; rw [putS_i h, putS_i h, putN_i h]
theorem putV_4 {c v : Nat} {w a b : Int32} : putV x c v w a b 4 = x 4 := by
  unfold putV; rw [putS_r (by decide) (by omega), putS_r (by decide) (by omega), putN_r (by decide) (by omega)]
theorem putV_v {c v r : Nat} {w a b : Int32} (hv : v < 3) (h7 : r ≠ 7) : putV x c v w a b r c = if r = 2 * v + 17 then b else if r = 2 * v + 16 then a else if r = v + 13 then w else x r c := by
  unfold putV
  rw [putS_v]
  by_cases e1 : r = 2 * v + 1 + 16
  · rw [if_pos ⟨e1, rfl⟩, if_pos (by omega)]
  · rw [if_neg (fun q => e1 q.1), if_neg (fun q => h7 q.1), if_neg (by omega), putS_v]
    by_cases e2 : r = 2 * v + 0 + 16
    · rw [if_pos ⟨e2, rfl⟩, if_pos (by omega)]
    · rw [if_neg (fun q => e2 q.1), if_neg (fun q => h7 q.1), if_neg (by omega), putN_v]
      by_cases e3 : r = v + 13
      · rw [if_pos ⟨e3, rfl⟩, if_pos e3]
      · rw [if_neg (fun q => e3 q.1), if_neg (fun q => h7 q.1), if_neg e3]
theorem mergeV_i {c r i : Nat} (h : i ≠ c) : mergeV x c r i = x r i := by unfold mergeV; rw [putV_i h, putV_i h, putV_i h]
theorem mergeV_4 {c : Nat} : mergeV x c 4 = x 4 := by unfold mergeV; rw [putV_4, putV_4, putV_4]
theorem mergeV_v {c r : Nat} (h : r ≠ 7) : mergeV x c r c = if r = 2 * 2 + 17 then cSt x c 1 else if r = 2 * 2 + 16 then cSt x c 0 else if r = 2 + 13 then cNm x c else if r = 2 * 1 + 17 then cSt x c 1 else if r = 2 * 1 + 16 then cSt x c 0 else if r = 1 + 13 then cNm x c else if r = 2 * 0 + 17 then cSt x c 1 else if r = 2 * 0 + 16 then cSt x c 0 else if r = 0 + 13 then cNm x c else x r c := by
  unfold mergeV
  rw [putV_v (by decide) h, putV_v (by decide) h, putV_v (by decide) h]
/-- all versions of a card are the merged one -/
def mgd (X : Nat → Nat → Int32) (i : Nat) (N S0 S1 : Int32) : Prop := X 13 i = N ∧ X 14 i = N ∧ X 15 i = N ∧ X 16 i = S0 ∧ X 17 i = S1 ∧ X 18 i = S0 ∧ X 19 i = S1 ∧ X 20 i = S0 ∧ X 21 i = S1
theorem mergeV_m {c : Nat} : mgd (mergeV x c) c (cNm x c) (cSt x c 0) (cSt x c 1) := by
  refine ⟨?_, ?_, ?_, ?_, ?_, ?_, ?_, ?_, ?_⟩ <;> rw [mergeV_v (by decide)] <;> simp
theorem mgd.st {X : Nat → Nat → Int32} {i : Nat} {N S0 S1 : Int32} (h : mgd X i N S0 S1) : cSt X i 0 = S0 ∧ cSt X i 1 = S1 ∧ synB X i = true := by
  obtain ⟨h1, h2, h3, h4, h5, h6, h7, h8, h9⟩ := h
  have e0 : cSt X i 0 = S0 := by
    show mrg (X 16 i) (X 18 i) (X 20 i) = S0
    rw [h4, h6, h8, mrg_same]
  have e1 : cSt X i 1 = S1 := by
    show mrg (X 17 i) (X 19 i) (X 21 i) = S1
    rw [h5, h7, h9, mrg_same]
  have eN : cNm X i = N := by
    show mrgN (X 13 i) (X 14 i) (X 15 i) = N
    rw [h1, h2, h3]
    unfold mrgN
    rw [if_pos rfl]
  refine ⟨e0, e1, ?_⟩
  show ((decide (X 13 i = cNm X i) && decide (X 16 i = cSt X i 0) && decide (X 17 i = cSt X i 1)) && (decide (X 14 i = cNm X i) && decide (X 18 i = cSt X i 0) && decide (X 19 i = cSt X i 1)) && (decide (X 15 i = cNm X i) && decide (X 20 i = cSt X i 0) && decide (X 21 i = cSt X i 1))) = true
  rw [e0, e1, eN, h1, h2, h3, h4, h5, h6, h7, h8, h9]
  simp
theorem sy_4 {b : Int32} : ∀ m, syS x b m 4 = x 4
  | 0 => rfl
  | m + 1 => by
    rw [syS]
    split
    · rw [mergeV_4, sy_4 m]
    · exact sy_4 m
theorem sy_hi {b : Int32} {i r : Nat} : ∀ m, m ≤ i → syS x b m r i = x r i
  | 0, _ => rfl
  | m + 1, h => by
    rw [syS]
    split
    · rw [mergeV_i (by omega), sy_hi m (by omega)]
    · exact sy_hi m (by omega)
theorem sy_lo {b : Int32} {i r : Nat} : ∀ m, i < m → syS x b m r i = syS x b (i + 1) r i
  | 0, h => absurd h (Nat.not_lt_zero _)
  | m + 1, h => by
    by_cases e : i = m
    · rw [e]
    · have ih := sy_lo (b := b) (i := i) (r := r) m (by omega)
      rw [← ih, syS]
      split
      · rw [mergeV_i e]
      · rfl
theorem st_col {X : Nat → Nat → Int32} {i : Nat} (h : ∀ r, X r i = x r i) : cNm X i = cNm x i ∧ (∀ k, cSt X i k = cSt x i k) ∧ synB X i = synB x i := by
  have e1 : cNm X i = cNm x i := by unfold cNm; rw [h, h, h]
  have e2 : ∀ k, cSt X i k = cSt x i k := fun k => by unfold cSt; rw [h, h, h]
  refine ⟨e1, e2, ?_⟩
  unfold synB synV
  simp only [e1, e2, h]
theorem sy_in {b : Int32} {m i : Nat} (hi : i < m) (hb : x 4 i = b) : mgd (syS x b m) i (cNm x i) (cSt x i 0) (cSt x i 1) := by
  have col := st_col (x := x) (X := syS x b i) (i := i) (fun r => sy_hi i (Nat.le_refl _))
  have e : ∀ r, syS x b m r i = mergeV (syS x b i) i r i := fun r => by
    rw [sy_lo m hi, syS, if_pos (by rw [sy_4]; exact hb)]
  have q := mergeV_m (x := syS x b i) (c := i)
  rw [col.1, col.2.1, col.2.1] at q
  unfold mgd at q ⊢
  simp only [e]
  exact q
theorem sy_out {b : Int32} {m i : Nat} (hi : i < m) (hb : ¬ x 4 i = b) (r : Nat) : syS x b m r i = x r i := by
  rw [sy_lo m hi, syS, if_neg (by rw [sy_4]; exact hb)]
  exact sy_hi i (Nat.le_refl _)
theorem sy_st {b : Int32} {m i k : Nat} (hi : i < m) (hk : k < 2) : cSt (syS x b m) i k = cSt x i k := by
  by_cases hb : x 4 i = b
  · have q := (sy_in hi hb).st
    rcases (by omega : k = 0 ∨ k = 1) with rfl | rfl
    · exact q.1
    · exact q.2.1
  · exact (st_col (fun r => sy_out hi hb r)).2.1 k
theorem sy_us {b : Int32} {m : Nat} : ∀ t, t ≤ m → usC (syS x b m) b t = nI 0
  | 0, _ => rfl
  | t + 1, h => by
    rw [usC, sy_us t (by omega), if_neg]
    rintro ⟨q1, q2⟩
    rw [sy_4] at q1
    rw [((sy_in (show t < m by omega) q1).st).2.2] at q2
    cases q2
theorem sy_us2 {b b' : Int32} {m : Nat} (hne : b' ≠ b) : ∀ t, t ≤ m → usC (syS x b m) b' t = usC x b' t
  | 0, _ => rfl
  | t + 1, h => by
    have ih := sy_us2 (m := m) hne t (by omega)
    rw [usC, usC, ih, sy_4]
    by_cases q : x 4 t = b'
    · rw [(st_col (fun r => sy_out (show t < m by omega) (fun z => hne (q.symm.trans z)) r)).2.2]
    · rw [if_neg (fun z => q z.1), if_neg (fun z => q z.1)]
theorem sy_sum {β : Nat} (hn : n ≤ 24) (hβ : β < 3) : usC (syS x (nI β) n) (nI 0) n + usC (syS x (nI β) n) (nI 1) n + usC (syS x (nI β) n) (nI 2) n = usC x (nI 0) n + usC x (nI 1) n + usC x (nI 2) n - usC x (nI β) n := by
  obtain ⟨k0, a0, e0⟩ := usC_nat (x := x) (b := nI 0) n
  obtain ⟨k1, a1, e1⟩ := usC_nat (x := x) (b := nI 1) n
  obtain ⟨k2, a2, e2⟩ := usC_nat (x := x) (b := nI 2) n
  rcases (by omega : β = 0 ∨ β = 1 ∨ β = 2) with rfl | rfl | rfl
  · rw [sy_us n (Nat.le_refl _), sy_us2 (by decide) n (Nat.le_refl _), sy_us2 (by decide) n (Nat.le_refl _), e0, e1, e2]
    simp only [nI_add]
    rw [pk_sub (by omega)]
    congr 1; omega
  · rw [sy_us n (Nat.le_refl _), sy_us2 (by decide) n (Nat.le_refl _), sy_us2 (by decide) n (Nat.le_refl _), e0, e1, e2]
    simp only [nI_add]
    rw [pk_sub (by omega)]
    congr 1; omega
  · rw [sy_us n (Nat.le_refl _), sy_us2 (by decide) n (Nat.le_refl _), sy_us2 (by decide) n (Nat.le_refl _), e0, e1, e2]
    simp only [nI_add]
    rw [pk_sub (by omega)]
    congr 1; omega
theorem sy_eq {X : Nat → Nat → Int32} {c k : Nat} (h1 : X (k + 16) c = X (k + 20) c) (h2 : X (k + 18) c = X (k + 20) c) : X (k + 16) c = cSt X c k := by
  unfold cSt
  rw [h1, h2, mrg_same]
/-! link -/
theorem Gd.linked (h : Gd K n x) {c d : Nat} (hc : c < n) (hd : d < n) (q : hasB (x 8 c) d = true) : x 9 c = x 9 d := by
  have n24 := h.n24
  exact (h.tog hc hd).mp ((h.grp hc).2.1 c hc (h.self hc) d (by omega) q)
theorem con_9 {c d i : Nat} (hi : i < 24) (q : hasB (x 9 c ||| x 9 d) i = true) : conX x c d 9 i = x 9 c ||| x 9 d := by
  unfold conX
  rw [pgF_9, lnkX_o (by decide), if_pos ⟨hi, q⟩]
theorem Gd.con (h : Gd K n x) {c d : Nat} (hc : c < n) (hd : d < n) (hne : c ≠ d) : conX x c d 9 c = x 9 c ||| x 9 d ∧ conX x c d 9 d = x 9 c ||| x 9 d ∧ hasB (conX x c d 8 d) c = true := by
  have n24 := h.n24
  refine ⟨con_9 (by omega) (by rw [hb_or (by omega), h.self hc]; rfl), con_9 (by omega) (by rw [hb_or (by omega), h.self hd, Bool.or_true]), ?_⟩
  rw [show conX x c d 8 = lnkX x c d 8 from pgF_o (by decide) 24, lnkX_8 (by omega) (by omega) hne (by omega)]
  simp
/-! edit -/
theorem tk_9 {g : Int32} {k v a : Nat} (h7 : a ≠ 7) (hk : a ≠ k + 16) : ∀ m, tkS x g k v m a = x a
  | 0 => rfl
  | m + 1 => by
    rw [tkS]
    split
    · rw [putS_r h7 (by omega), tk_9 h7 hk m]
    · exact tk_9 h7 hk m
theorem tk_hi {g : Int32} {k v i r : Nat} : ∀ m, m ≤ i → tkS x g k v m r i = x r i
  | 0, _ => rfl
  | m + 1, h => by
    rw [tkS]
    split
    · rw [putS_i (by omega), tk_hi m (by omega)]
    · exact tk_hi m (by omega)
theorem tk_lo {g : Int32} {k v i r : Nat} : ∀ m, i < m → tkS x g k v m r i = tkS x g k v (i + 1) r i
  | 0, h => absurd h (Nat.not_lt_zero _)
  | m + 1, h => by
    by_cases e : i = m
    · rw [e]
    · have ih := tk_lo (g := g) (k := k) (v := v) (i := i) (r := r) m (by omega)
      rw [← ih, tkS]
      split
      · rw [putS_i e]
      · rfl
theorem tk_at {g : Int32} {k v i m : Nat} (hi : i < m) : tkS x g k v m (k + 16) i = if (hasB g i && hasB (x (k + 16) i) v) = true then x (k + 16) i &&& (bit v ^^^ (-1)) else x (k + 16) i := by
  rw [tk_lo m hi, tkS, tk_hi i (Nat.le_refl _)]
  by_cases q : (hasB g i && hasB (x (k + 16) i) v) = true
  · rw [if_pos q, if_pos q, putS_v, if_pos ⟨by omega, rfl⟩]
  · rw [if_neg q, if_neg q, tk_hi i (Nat.le_refl _)]
theorem tk_bit {g : Int32} {k v i m j : Nat} (hv : v < 32) (hj : j < 32) (hi : i < m) (hg : hasB g i = true) : hasB (tkS x g k v m (k + 16) i) j = (hasB (x (k + 16) i) j && !decide (v = j)) := by
  rw [tk_at hi, hg, Bool.true_and]
  by_cases q : hasB (x (k + 16) i) v = true
  · rw [if_pos q, hb_and hj, hb_not hj, hb_bit hv hj]
  · rw [if_neg q]
    by_cases e : v = j
    · rw [← e, Bool.eq_false_iff.mpr q, Bool.false_and]
    · rw [decide_eq_false e, Bool.not_false, Bool.and_true]
theorem tk_or {g : Int32} {k v : Nat} (hv : v < 32) (h : hasB (orF g (x (k + 16)) n) v = true) : orF g (tkS x g k v n (k + 16)) n = orF g (x (k + 16)) n ^^^ bit v := hb_ext fun j hj => by
  rw [hb_xor hj, hb_bit hv hj, Bool.eq_iff_iff, orF_bit hj]
  by_cases e : v = j
  · subst e
    rw [h, decide_eq_true rfl]
    constructor
    · rintro ⟨i, h1, h2, h3⟩
      rw [tk_bit hv hj h1 h2] at h3
      simp at h3
    · intro z; simp at z
  · rw [decide_eq_false e, Bool.xor_false, orF_bit hj]
    constructor
    · rintro ⟨i, h1, h2, h3⟩
      rw [tk_bit hv hj h1 h2, decide_eq_false e, Bool.not_false, Bool.and_true] at h3
      exact ⟨i, h1, h2, h3⟩
    · rintro ⟨i, h1, h2, h3⟩
      exact ⟨i, h1, h2, by rw [tk_bit hv hj h1 h2, decide_eq_false e, Bool.not_false, Bool.and_true]; exact h3⟩
theorem tkC_bit {g : Int32} {k v j : Nat} (hj : j < 32) : ∀ m, m ≤ 24 → hasB (tkC x g k v m) j = (decide (j < m) && (hasB g j && hasB (x (k + 16) j) v))
  | 0, _ => by rw [tkC, hb_0 hj]; simp
  | m + 1, h => by
    have ih := tkC_bit (g := g) (k := k) (v := v) hj m (by omega)
    rw [tkC, tk_hi m (Nat.le_refl _)]
    by_cases e : j = m
    · subst e
      by_cases q : (hasB g j && hasB (x (k + 16) j) v) = true
      · rw [if_pos q, hb_or hj, hb_bit hj hj, q]; simp
      · rw [if_neg q, ih]; simp [q]
    · have e2 : decide (j < m + 1) = decide (j < m) := by rw [decide_eq_decide]; omega
      rw [e2, ← ih]
      split
      · rw [hb_or hj, hb_bit (by omega) hj, decide_eq_false (Ne.symm e), Bool.or_false]
      · rfl
theorem Gd.tk (h : Gd K n x) {c k v : Nat} (hv : v < 32) (q : hasB (orF (x 9 c) (x (k + 16)) n) v = true) : ¬ tkC x (x 9 c) k v n = 0 ∧ tkC x (x 9 c) k v n &&& (x 9 c ^^^ (-1)) = 0 := by
  have n24 := h.n24
  constructor
  · obtain ⟨i, h1, h2, h3⟩ := (orF_bit hv n).mp q
    refine hb_nz (j := i) (by omega) ?_
    rw [tkC_bit (by omega) n n24, decide_eq_true h1, h2, h3]; rfl
  · refine hb_zero fun j hj => ?_
    rw [hb_and hj, hb_not hj, tkC_bit hj n n24]
    cases decide (j < n) <;> cases hasB (x 9 c) j <;> cases hasB (x (k + 16) j) v <;> rfl
theorem Gd.ed (h : Gd K n x) {c k w : Nat} (hc : c < n) (hw : w < 32) (q : hasB (orF (x 9 c) (x (k + 16)) n) w = false) :
    orF (x 9 c) (putS x (prefF (x 4) (x 9 c) c n) 0 k (x (k + 16) (prefF (x 4) (x 9 c) c n) ||| bit w) (k + 16)) n = orF (x 9 c) (x (k + 16)) n ^^^ bit w ∧ ¬ bit (prefF (x 4) (x 9 c) c n) = 0 ∧ bit (prefF (x 4) (x 9 c) c n) &&& (x 9 c ^^^ (-1)) = 0 := by
  have n24 := h.n24
  obtain ⟨b1, b2, -, -⟩ := h.best hc
  generalize prefF (x 4) (x 9 c) c n = B at b1 b2 ⊢
  have at_i : ∀ i, putS x B 0 k (x (k + 16) B ||| bit w) (k + 16) i = if i = B then x (k + 16) B ||| bit w else x (k + 16) i := fun i => by
    by_cases e : i = B
    · rw [if_pos e, e, putS_v, if_pos ⟨by omega, rfl⟩]
    · rw [if_neg e, putS_i e]
  refine ⟨hb_ext fun j hj => ?_, hb_nz (j := B) (by omega) (by rw [hb_bit (by omega) (by omega)]; simp), hb_zero fun j hj => ?_⟩
  · rw [hb_xor hj, hb_bit hw hj, Bool.eq_iff_iff, orF_bit hj]
    by_cases e : w = j
    · subst e
      rw [q, decide_eq_true rfl]
      refine ⟨fun _ => rfl, fun _ => ⟨B, b1, b2, ?_⟩⟩
      rw [at_i, if_pos rfl, hb_or hj, hb_bit hj hj]; simp
    · rw [decide_eq_false e, Bool.xor_false, orF_bit hj]
      have eb : ∀ i, hasB (putS x B 0 k (x (k + 16) B ||| bit w) (k + 16) i) j = hasB (x (k + 16) i) j := fun i => by
        rw [at_i]
        by_cases z : i = B
        · rw [if_pos z, hb_or hj, hb_bit hw hj, decide_eq_false e, Bool.or_false, z]
        · rw [if_neg z]
      simp only [eb]
  · rw [hb_and hj, hb_not hj, hb_bit (by omega) hj]
    by_cases e : B = j
    · subst e; rw [b2, Bool.not_true, Bool.and_false]
    · rw [decide_eq_false e, Bool.false_and]
end FAC
