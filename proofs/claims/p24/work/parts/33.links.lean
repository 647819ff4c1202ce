/-! GROUPS -/
theorem grp_congr {L L' : Nat → Int32} {n c : Nat} {r : Int32} (h : ∀ i, i < n → L i = L' i) (g : isGrp L n c r) : isGrp L' n c r := by
  obtain ⟨g1, g2, g3⟩ := g
  exact ⟨g1, fun i hi hr j hj hl => g2 i hi hr j hj (by rw [h i hi]; exact hl), fun S hS hc => g3 S hS (fun i hi hSi j hj hl => hc i hi hSi j hj (by rw [← h i hi]; exact hl))⟩
def lkOk (L : Nat → Int32) (n : Nat) : Prop := ∀ c j, c < 24 → j < 32 → hasB (L c) j = true → c < n ∧ j < n ∧ hasB (L j) c = true
theorem grp_in {L : Nat → Int32} {n c : Nat} {r : Int32} (hn : n ≤ 24) (hL : lkOk L n) (hc : c < n) (g : isGrp L n c r) {j : Nat} (hj : j < 32) (h : hasB r j = true) : j < n :=
  g.2.2 (fun j => j < n) hc (fun i hi _ j hj hl => (hL i j (by omega) hj hl).2.1) j hj h
/-- from another of the group -/
theorem grp_at {L : Nat → Int32} {n c i : Nat} {r : Int32} (hn : n ≤ 24) (hL : lkOk L n) (g : isGrp L n c r) (hi : i < n) (h : hasB r i = true) : isGrp L n i r := by
  obtain ⟨g1, g2, g3⟩ := g
  refine ⟨h, g2, fun S hS hcl => ?_⟩
  have hSc : S c := g3 (fun j => S j → S c) id (fun a ha hT j hj hl hSj => by
    obtain ⟨-, q2, q3⟩ := hL a j (by omega) hj hl
    exact hT (hcl j q2 hSj a (by omega) q3)) i (by omega) h hS
  exact g3 S hSc hcl
theorem grp_uniq {L : Nat → Int32} {n c : Nat} {r r' : Int32} (g : isGrp L n c r) (g' : isGrp L n c r') : r = r' := by
  refine hb_ext fun v hv => ?_
  have h1 := g.2.2 (fun j => hasB r' j = true) g'.1 (fun i hi q j hj hl => g'.2.1 i hi q j hj hl) v hv
  have h2 := g'.2.2 (fun j => hasB r j = true) g.1 (fun i hi q j hj hl => g.2.1 i hi q j hj hl) v hv
  cases a : hasB r v <;> cases b : hasB r' v
  · rfl
  · exact absurd (h2 b) (by rw [a]; decide)
  · exact absurd (h1 a) (by rw [b]; decide)
  · rfl
theorem pgF_o {x : Nat → Nat → Int32} {g : Int32} {a : Nat} (ha : a ≠ 9) : ∀ m, pgF x g m a = x a
  | 0 => rfl
  | m + 1 => by
    rw [pgF]
    split
    · funext b; rw [up2_k ha, pgF_o ha m]
    · exact pgF_o ha m
theorem pgF_9 {x : Nat → Nat → Int32} {g : Int32} {i : Nat} : ∀ m, pgF x g m 9 i = if i < m ∧ hasB g i = true then g else x 9 i
  | 0 => by rw [pgF, if_neg (fun q => absurd q.1 (Nat.not_lt_zero _))]
  | m + 1 => by
    rw [pgF]
    by_cases e : i = m
    · subst e
      by_cases q : hasB g i = true
      · rw [if_pos q, up2_self, if_pos ⟨Nat.lt_succ_self _, q⟩]
      · rw [if_neg q, pgF_9 i, if_neg (fun z => q z.2), if_neg (fun z => q z.2)]
    · have : (i < m ∧ hasB g i = true) ↔ (i < m + 1 ∧ hasB g i = true) := ⟨fun z => ⟨by omega, z.2⟩, fun z => ⟨by omega, z.2⟩⟩
      split
      · rw [up2_i e, pgF_9 m]
        simp only [this]
      · rw [pgF_9 m]
        simp only [this]
theorem lnkX_8 {x : Nat → Nat → Int32} {c d i j : Nat} (hc : c < 32) (hd : d < 32) (hne : c ≠ d) (hj : j < 32) : hasB (lnkX x c d 8 i) j = (hasB (x 8 i) j || (decide (i = c) && decide (j = d)) || (decide (i = d) && decide (j = c))) := by
  unfold lnkX
  by_cases e : i = d
  · subst e
    rw [up2_self, up2_i (Ne.symm hne), hb_or hj, hb_bit hc hj, decide_eq_false (Ne.symm hne), decide_eq_true (rfl : i = i)]
    simp [eq_comm]
  · rw [up2_i e]
    by_cases e2 : i = c
    · subst e2
      rw [up2_self, hb_or hj, hb_bit hd hj, decide_eq_true (rfl : i = i), decide_eq_false e]
      simp [eq_comm]
    · rw [up2_i e2, decide_eq_false e, decide_eq_false e2]
      simp
theorem lnkX_o {x : Nat → Nat → Int32} {c d a : Nat} (ha : a ≠ 8) : lnkX x c d a = x a := by
  funext b
  unfold lnkX
  rw [up2_k ha, up2_k ha]
/-- a link more -/
theorem relL_link {n c d : Nat} {x y : Nat → Nat → Int32} (hn : n ≤ 24) (h : relL n x y) (hc : c < n) (hd : d < n) (hne : c ≠ d) : relL n (conX x c d) (mlnk y c d) := by
  obtain ⟨e8, hL, hg, hb⟩ := h
  have r8 : conX x c d 8 = lnkX x c d 8 := pgF_o (by decide) 24
  have r9 : ∀ i, i < 24 → conX x c d 9 i = if hasB (x 9 c ||| x 9 d) i = true then (x 9 c ||| x 9 d) else x 9 i := by
    intro i hi
    unfold conX
    rw [pgF_9, lnkX_o (by decide)]
    by_cases q : hasB (x 9 c ||| x 9 d) i = true
    · rw [if_pos ⟨hi, q⟩, if_pos q]
    · rw [if_neg (fun z => q z.2), if_neg q]
  have b8 : ∀ i j, j < 32 → hasB (conX x c d 8 i) j = (hasB (x 8 i) j || (decide (i = c) && decide (j = d)) || (decide (i = d) && decide (j = c))) := fun i j hj => by rw [r8]; exact lnkX_8 (by omega) (by omega) hne hj
  have hLk : lkOk (x 8) n := hL
  have gc := hg c hc
  have gd := hg d hd
  have or3 : ∀ i j, j < 32 → hasB (conX x c d 8 i) j = true → hasB (x 8 i) j = true ∨ (i = c ∧ j = d) ∨ (i = d ∧ j = c) := by
    intro i j hj q
    rw [b8 i j hj] at q
    simp only [Bool.or_eq_true, Bool.and_eq_true, decide_eq_true_eq] at q
    rcases q with (q | q) | q
    · exact Or.inl q
    · exact Or.inr (Or.inl q)
    · exact Or.inr (Or.inr q)
  have old : ∀ i j, j < 32 → hasB (x 8 i) j = true → hasB (conX x c d 8 i) j = true := fun i j hj q => by rw [b8 i j hj, q]; rfl
  have ecd : hasB (conX x c d 8 c) d = true := by rw [b8 c d (by omega)]; simp
  have edc : hasB (conX x c d 8 d) c = true := by rw [b8 d c (by omega)]; simp
  have inc : ∀ j, j < 32 → hasB (x 9 c ||| x 9 d) j = true → hasB (x 9 c) j = true ∨ hasB (x 9 d) j = true := by
    intro j hj q
    rw [hb_or hj, Bool.or_eq_true] at q
    exact q
  refine ⟨fun i hi => ?_, fun i j hi hj q => ?_, fun i hi => ?_, fun i h1 h2 => ?_⟩
  · rw [r8]
    unfold lnkX mlnk up2
    by_cases e : i = d
    · simp [e, Ne.symm hne, e8 d (by omega)]
    · by_cases e2 : i = c
      · subst e2
        simp [e, e8 i (by omega)]
      · simp [e, e2, e8 i hi]
  · rcases or3 i j hj q with q | ⟨rfl, rfl⟩ | ⟨rfl, rfl⟩
    · obtain ⟨q1, q2, q3⟩ := hL i j hi hj q
      exact ⟨q1, q2, old j i (by omega) q3⟩
    · exact ⟨hc, hd, edc⟩
    · exact ⟨hd, hc, ecd⟩
  · rw [r9 i (by omega)]
    have gi := hg i hi
    by_cases q : hasB (x 9 c ||| x 9 d) i = true
    · rw [if_pos q]
      refine ⟨q, fun a ha hq j hj hl => ?_, fun S hS hcl => ?_⟩
      · rw [hb_or hj, Bool.or_eq_true]
        rcases or3 a j hj hl with z | ⟨rfl, rfl⟩ | ⟨rfl, rfl⟩
        · rcases inc a (by omega) hq with w | w
          · exact Or.inl (gc.2.1 a ha w j hj z)
          · exact Or.inr (gd.2.1 a ha w j hj z)
        · exact Or.inr gd.1
        · exact Or.inl gc.1
      · have hcl' : ∀ a, a < n → S a → ∀ j, j < 32 → hasB (x 8 a) j = true → S j := fun a ha hSa j hj z => hcl a ha hSa j hj (old a j hj z)
        have hboth : S c ∧ S d := by
          rcases inc i (by omega) q with w | w
          · have hSc := (grp_at hn hLk gc hi w).2.2 S hS hcl' c (by omega) gc.1
            exact ⟨hSc, hcl c hc hSc d (by omega) ecd⟩
          · have hSd := (grp_at hn hLk gd hi w).2.2 S hS hcl' d (by omega) gd.1
            exact ⟨hcl d hd hSd c (by omega) edc, hSd⟩
        intro j hj z
        rcases inc j hj z with w | w
        · exact gc.2.2 S hboth.1 hcl' j hj w
        · exact gd.2.2 S hboth.2 hcl' j hj w
    · rw [if_neg q]
      have nc : ∀ e : Nat, e < n → (hasB (x 9 e) i = true → hasB (x 9 c ||| x 9 d) i = true) → hasB (x 9 i) e = true → False := by
        intro e he hw hie
        have h1 := grp_uniq (grp_at hn hLk gi he hie) (hg e he)
        exact q (hw (by rw [← h1]; exact gi.1))
      refine ⟨gi.1, fun a ha hq j hj hl => ?_, fun S hS hcl => gi.2.2 S hS (fun a ha hSa j hj z => hcl a ha hSa j hj (old a j hj z))⟩
      rcases or3 a j hj hl with z | ⟨rfl, rfl⟩ | ⟨rfl, rfl⟩
      · exact gi.2.1 a ha hq j hj z
      · exact (nc a hc (fun w => by rw [hb_or (by omega), w]; rfl) hq).elim
      · exact (nc a hd (fun w => by rw [hb_or (by omega), w, Bool.or_true]) hq).elim
  · rw [r9 i h2, if_neg, hb i h1 h2]
    intro q
    rcases inc i (by omega) q with w | w
    · have := grp_in hn hLk hc gc (by omega) w; omega
    · have := grp_in hn hLk hd gd (by omega) w; omega
/-- what is in s of one of the group -/
theorem orF_bit {g : Int32} {s : Nat → Int32} {j : Nat} (hj : j < 32) : ∀ m, hasB (orF g s m) j = true ↔ ∃ i, i < m ∧ hasB g i = true ∧ hasB (s i) j = true
  | 0 => by
    rw [orF, hb_0 hj]
    constructor
    · intro h; cases h
    · rintro ⟨i, h, _⟩; exact absurd h (Nat.not_lt_zero _)
  | m + 1 => by
    rw [orF]
    by_cases q : hasB g m = true
    · rw [if_pos q, hb_or hj, Bool.or_eq_true, orF_bit hj m]
      constructor
      · rintro (⟨i, h1, h2⟩ | h)
        · exact ⟨i, by omega, h2⟩
        · exact ⟨m, by omega, q, h⟩
      · rintro ⟨i, h1, h2, h3⟩
        by_cases e : i = m
        · subst e; exact Or.inr h3
        · exact Or.inl ⟨i, by omega, h2, h3⟩
    · rw [if_neg q, orF_bit hj m]
      constructor
      · rintro ⟨i, h1, h2⟩
        exact ⟨i, by omega, h2⟩
      · rintro ⟨i, h1, h2, h3⟩
        have : i ≠ m := fun e => q (e ▸ h2)
        exact ⟨i, by omega, h2, h3⟩
theorem rea_mono {L : Nat → Int32} {c j i : Nat} (hj : j < 32) (h : hasB (reaF L c i) j = true) : ∀ k, hasB (reaF L c (i + k)) j = true
  | 0 => h
  | k + 1 => by rw [show i + (k + 1) = (i + k) + 1 by omega, reaF, hb_or hj, rea_mono hj h k, Bool.true_or]
theorem zc_full : zc (nI (2 ^ 24 - 1)) = 8 := by decide +kernel
theorem hb_full : ∀ j, j < 24 → hasB (nI (2 ^ 24 - 1)) j = true := by decide +kernel
theorem zc_8 {a : Int32} (h : ∀ j, j < 32 → hasB a j = true → j < 24) : 8 ≤ zc a := by
  by_cases e : nI (2 ^ 24 - 1) = a
  · rw [← e, zc_full]; exact Nat.le_refl _
  · have := zc_lt (a := a) (b := nI (2 ^ 24 - 1)) (fun j hj q => hb_full j (h j hj q)) e
    rw [zc_full] at this
    omega
/-- the class's way to a group -/
theorem rea_grp {L : Nat → Int32} {n c : Nat} (hn : n ≤ 24) (hL : lkOk L n) (hc : c < n) : isGrp L n c (reaF L c 24) := by
  have h0 : hasB (reaF L c 0) c = true := by rw [reaF, hb_bit (by omega) (by omega)]; simp
  have sub : ∀ S : Nat → Prop, S c → (∀ i, i < n → S i → ∀ j, j < 32 → hasB (L i) j = true → S j) → ∀ k j, j < 32 → hasB (reaF L c k) j = true → S j := by
    intro S hS hcl k
    induction k with
    | zero =>
      intro j hj q
      rw [reaF, hb_bit (by omega) hj] at q
      have := of_decide_eq_true q
      subst this
      exact hS
    | succ k ih =>
      intro j hj q
      rw [reaF, hb_or hj, Bool.or_eq_true] at q
      rcases q with q | q
      · exact ih j hj q
      · obtain ⟨i, h1, h2, h3⟩ := (orF_bit hj 24).mp q
        exact hcl i (hL i j h1 hj h3).1 (ih i (by omega) h2) j hj h3
  have inn : ∀ k j, j < 32 → hasB (reaF L c k) j = true → j < 24 := fun k j hj q => Nat.lt_of_lt_of_le (sub (fun j => j < n) hc (fun i hi _ j hj hl => (hL i j (by omega) hj hl).2.1) k j hj q) hn
  have step : ∀ k, reaF L c (k + 1) = reaF L c k ∨ zc (reaF L c k) + k ≤ 31 := by
    intro k
    induction k with
    | zero =>
      right
      have := zc_lt (a := nI 0) (b := reaF L c 0) (fun j hj q => by rw [hb_0 hj] at q; cases q) (fun e => by rw [e, hb_0 (by omega)] at h0; cases h0)
      have := zc_le (nI 0)
      omega
    | succ k ih =>
      by_cases e : reaF L c (k + 1 + 1) = reaF L c (k + 1)
      · exact Or.inl e
      · right
        have hne : reaF L c (k + 1) ≠ reaF L c k := by
          intro q
          apply e
          show reaF L c (k + 1) ||| orF (reaF L c (k + 1)) L 24 = reaF L c (k + 1)
          rw [q]
          exact q
        have h1 := ih.resolve_left hne
        have h2 := zc_lt (a := reaF L c k) (b := reaF L c (k + 1)) (fun j hj q => rea_mono (i := k) hj q 1) hne
        omega
  have fix : reaF L c 25 = reaF L c 24 := by
    rcases step 24 with h | h
    · exact h
    · have := zc_8 (inn 24)
      omega
  refine ⟨by have := rea_mono (i := 0) (by omega) h0 24; rwa [Nat.zero_add] at this, fun i hi q j hj hl => ?_, fun S hS hcl j hj q => sub S hS hcl 24 j hj q⟩
  rw [← fix, reaF, hb_or hj, Bool.or_eq_true]
  exact Or.inr ((orF_bit hj 24).mpr ⟨i, by omega, q, hl⟩)
theorem cutX_8 {x : Nat → Nat → Int32} {c d i j : Nat} (hc : c < 32) (hd : d < 32) (hj : j < 32) : hasB (cutX x c d 8 i) j = (hasB (x 8 i) j && !(decide (i = c) && decide (j = d)) && !(decide (i = d) && decide (j = c))) := by
  have nb : ∀ e, e < 32 → hasB (bit e ^^^ (-1)) j = !decide (j = e) := by
    intro e he
    rw [hb_xor hj, hb_bit he hj, hb_m1 hj]
    by_cases q : e = j
    · rw [decide_eq_true q, decide_eq_true q.symm]; rfl
    · rw [decide_eq_false q, decide_eq_false (Ne.symm q)]; rfl
  unfold cutX
  by_cases e : i = d
  · subst e
    rw [up2_self, hb_and hj, nb c hc]
    by_cases e2 : i = c
    · subst e2
      rw [up2_self, hb_and hj, nb i hd]
      simp
    · rw [up2_i e2]
      simp [e2]
  · rw [up2_i e]
    by_cases e2 : i = c
    · subst e2
      rw [up2_self, hb_and hj, nb d hd]
      simp [e]
    · rw [up2_i e2]
      simp [e, e2]
theorem cutX_o {x : Nat → Nat → Int32} {c d a : Nat} (ha : a ≠ 8) : cutX x c d a = x a := by
  funext b
  unfold cutX
  rw [up2_k ha, up2_k ha]
theorem relL_cut {n c d : Nat} {x y : Nat → Nat → Int32} (hn : n ≤ 24) (h : relL n x y) (hc : c < n) (hd : d < n) : relL n (disX x c d) (mcut y c d) := by
  obtain ⟨e8, hL, hg, hb⟩ := h
  have r8a : disA (cutX x c d) c 8 = cutX x c d 8 := pgF_o (by decide) 24
  have r8 : disX x c d 8 = cutX x c d 8 := (pgF_o (by decide) 24).trans r8a
  have hLk : lkOk (x 8) n := hL
  have b8 : ∀ i j, j < 32 → hasB (cutX x c d 8 i) j = (hasB (x 8 i) j && !(decide (i = c) && decide (j = d)) && !(decide (i = d) && decide (j = c))) := fun i j hj => cutX_8 (by omega) (by omega) hj
  have new : ∀ i j, j < 32 → hasB (cutX x c d 8 i) j = true → hasB (x 8 i) j = true ∧ ¬ (i = c ∧ j = d) ∧ ¬ (i = d ∧ j = c) := by
    intro i j hj q
    rw [b8 i j hj] at q
    simp only [Bool.and_eq_true, Bool.not_eq_true', Bool.and_eq_false_iff, decide_eq_false_iff_not] at q
    exact ⟨q.1.1, fun z => q.1.2.elim (fun w => w z.1) (fun w => w z.2), fun z => q.2.elim (fun w => w z.1) (fun w => w z.2)⟩
  have back : ∀ i j, j < 32 → hasB (x 8 i) j = true → ¬ (i = c ∧ j = d) → ¬ (i = d ∧ j = c) → hasB (cutX x c d 8 i) j = true := by
    intro i j hj q q1 q2
    rw [b8 i j hj, q]
    simp only [Bool.true_and, Bool.and_eq_true, Bool.not_eq_true', Bool.and_eq_false_iff, decide_eq_false_iff_not]
    constructor
    · by_cases z : i = c
      · exact Or.inr (fun w => q1 ⟨z, w⟩)
      · exact Or.inl z
    · by_cases z : i = d
      · exact Or.inr (fun w => q2 ⟨z, w⟩)
      · exact Or.inl z
  have hL2 : lkOk (cutX x c d 8) n := by
    intro i j hi hj q
    obtain ⟨q1, q2, q3⟩ := new i j hj q
    obtain ⟨w1, w2, w3⟩ := hL i j hi hj q1
    exact ⟨w1, w2, back j i (by omega) w3 (fun z => q3 ⟨z.2, z.1⟩) (fun z => q2 ⟨z.2, z.1⟩)⟩
  have gC := rea_grp hn hL2 hc
  have gD := rea_grp hn hL2 hd
  generalize hRc : reaF (cutX x c d 8) c 24 = Rc at gC
  generalize hRd : reaF (cutX x c d 8) d 24 = Rd at gD
  have r9 : ∀ i, i < 24 → disX x c d 9 i = if hasB Rd i = true then Rd else if hasB Rc i = true then Rc else x 9 i := by
    intro i hi
    show pgF (disA (cutX x c d) c) (reaF (disA (cutX x c d) c 8) d 24) 24 9 i = _
    rw [r8a, hRd, pgF_9]
    show (if i < 24 ∧ hasB Rd i = true then Rd else pgF (cutX x c d) (reaF (cutX x c d 8) c 24) 24 9 i) = _
    rw [hRc, pgF_9, cutX_o (by decide)]
    by_cases q : hasB Rd i = true
    · rw [if_pos ⟨hi, q⟩, if_pos q]
    · rw [if_neg (fun z => q z.2), if_neg q]
      by_cases q2 : hasB Rc i = true
      · rw [if_pos ⟨hi, q2⟩, if_pos q2]
      · rw [if_neg (fun z => q2 z.2), if_neg q2]
  refine ⟨fun i hi => ?_, fun i j hi hj q => by rw [r8] at q ⊢; exact hL2 i j hi hj q, fun i hi => ?_, fun i h1 h2 => ?_⟩
  · rw [r8]
    unfold cutX mcut up2
    by_cases e : i = d
    · by_cases e2 : d = c
      · simp [e, e2, e8 c (by omega)]
      · simp [e, e2, e8 d (by omega)]
    · by_cases e2 : i = c
      · subst e2
        simp [e, e8 i (by omega)]
      · simp [e, e2, e8 i hi]
  · rw [r8, r9 i (by omega)]
    by_cases q : hasB Rd i = true
    · rw [if_pos q]; exact grp_at hn hL2 gD hi q
    · rw [if_neg q]
      by_cases q2 : hasB Rc i = true
      · rw [if_pos q2]; exact grp_at hn hL2 gC hi q2
      · rw [if_neg q2]
        have gi := hg i hi
        refine ⟨gi.1, fun a ha w j hj hl => gi.2.1 a ha w j hj (new a j hj hl).1, fun S hS hcl j hj w => ?_⟩
        have key := gi.2.2 (fun j => S j ∧ hasB Rc j = false ∧ hasB Rd j = false) ⟨hS, Bool.eq_false_iff.mpr q2, Bool.eq_false_iff.mpr q⟩ (fun a ha ⟨t1, t2, t3⟩ j hj hl => ?_) j hj w
        · exact key.1
        · have hac : a ≠ c := fun z => by subst z; exact absurd gC.1 (by rw [t2]; decide)
          have had : a ≠ d := fun z => by subst z; exact absurd gD.1 (by rw [t3]; decide)
          have hl2 := back a j hj hl (fun z => hac z.1) (fun z => had z.1)
          obtain ⟨-, hjn, hl3⟩ := hL2 a j (by omega) hj hl2
          refine ⟨hcl a ha t1 j hj hl2, Bool.eq_false_iff.mpr fun z => ?_, Bool.eq_false_iff.mpr fun z => ?_⟩
          · exact absurd (gC.2.1 j hjn z a (by omega) hl3) (by rw [t2]; decide)
          · exact absurd (gD.2.1 j hjn z a (by omega) hl3) (by rw [t3]; decide)
  · rw [r9 i h2, if_neg (fun q => by have := grp_in hn hL2 hd gD (by omega) q; omega), if_neg (fun q => by have := grp_in hn hL2 hc gC (by omega) q; omega), hb i h1 h2]
/-- the group of a card has but cards -/
theorem grp_fit {L : Nat → Int32} {n c : Nat} {r : Int32} (hn : n ≤ 24) (hL : lkOk L n) (hc : c < n) (g : isGrp L n c r) : fit30 r :=
  fit30_bits (Bool.eq_false_iff.mpr fun q => by have := grp_in hn hL hc g (by decide) q; omega) (Bool.eq_false_iff.mpr fun q => by have := grp_in hn hL hc g (by decide) q; omega)
theorem Rel.links {K n : Nat} {x y : Nat → Nat → Int32} (h : Rel K n x y) {c : Nat} (hc : c < 24) : x 8 c = y 4 c := h.2.2.1.1 c hc
theorem Rel.grp {K n : Nat} {x y : Nat → Nat → Int32} (h : Rel K n x y) : ∀ i, i < n → isGrp (y 4) n i (x 9 i) := fun i hi => grp_congr (fun j hj => h.links (by have := h.n24; omega)) (h.2.2.1.2.2.1 i hi)
theorem Rel_link {K n c d : Nat} {x y : Nat → Nat → Int32} (h : Rel K n x y) (hc : c < n) (hd : d < n) (hne : c ≠ d) : Rel K n (conX x c d) (mlnk y c d) ∧ isGrp (mlnk y c d 4) n c (conX x c d 9 c) ∧ bc (conX x c d 9 c) = cntV (conX x c d 9 c) 30 := by
  obtain ⟨hn, ⟨a1, a2, a3⟩, hL, mc, hF⟩ := h
  have ux : ∀ a, a ≠ 8 → a ≠ 9 → conX x c d a = x a := fun a h1 h2 => (pgF_o h2 24).trans (lnkX_o h1)
  have uy : ∀ a, a ≠ 4 → mlnk y c d a = y a := fun a h1 => by funext b; unfold mlnk; rw [up2_k h1, up2_k h1]
  have hL2 := relL_link hn hL hc hd hne
  refine ⟨⟨hn, ⟨fun i hi => ?_, fun i v hi hv => ?_, fun i v k hi hv hk => ?_⟩, hL2, mc, hF.same (ux 7 (by decide) (by decide)) (ux 10 (by decide) (by decide)) (fun a _ => ux _ (by omega) (by omega)) (uy 5 (by decide)) (uy 6 (by decide))⟩, grp_congr (fun i hi => hL2.1 i (by omega)) (hL2.2.2.1 c hc), cnt_eq (grp_fit hn hL2.2.1 hc (hL2.2.2.1 c hc))⟩
  · rw [ux 4 (by decide) (by decide), uy 1 (by decide)]; exact a1 i hi
  · rw [ux _ (by omega) (by omega), uy 2 (by decide)]; exact a2 i v hi hv
  · rw [ux _ (by omega) (by omega), uy 3 (by decide)]; exact a3 i v k hi hv hk
theorem Rel_cut {K n c d : Nat} {x y : Nat → Nat → Int32} (h : Rel K n x y) (hc : c < n) (hd : d < n) : Rel K n (disX x c d) (mcut y c d) ∧ isGrp (mcut y c d 4) n c (disX x c d 9 c) := by
  obtain ⟨hn, ⟨a1, a2, a3⟩, hL, mc, hF⟩ := h
  have ux : ∀ a, a ≠ 8 → a ≠ 9 → disX x c d a = x a := fun a h1 h2 => (pgF_o h2 24).trans ((pgF_o h2 24).trans (cutX_o h1))
  have uy : ∀ a, a ≠ 4 → mcut y c d a = y a := fun a h1 => by funext b; unfold mcut; rw [up2_k h1, up2_k h1]
  have hL2 := relL_cut hn hL hc hd
  refine ⟨⟨hn, ⟨fun i hi => ?_, fun i v hi hv => ?_, fun i v k hi hv hk => ?_⟩, hL2, mc, hF.same (ux 7 (by decide) (by decide)) (ux 10 (by decide) (by decide)) (fun a _ => ux _ (by omega) (by omega)) (uy 5 (by decide)) (uy 6 (by decide))⟩, grp_congr (fun i hi => hL2.1 i (by omega)) (hL2.2.2.1 c hc)⟩
  · rw [ux 4 (by decide) (by decide), uy 1 (by decide)]; exact a1 i hi
  · rw [ux _ (by omega) (by omega), uy 2 (by decide)]; exact a2 i v hi hv
  · rw [ux _ (by omega) (by omega), uy 3 (by decide)]; exact a3 i v k hi hv hk
