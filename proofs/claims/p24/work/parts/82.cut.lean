/-! A CUT, and how many groups there are -/
theorem low_bits : ∀ c, c < 24 → ∀ j, j < 32 → hasB (bit c - nI 1) j = decide (j < c) := by decide +kernel
theorem low_iff {g : Int32} {c : Nat} (hc : c < 24) : lowB g c = true ↔ ∀ j, j < c → hasB g j = false := by
  unfold lowB
  rw [decide_eq_true_iff]
  constructor
  · intro e j hj
    have h2 : hasB (g &&& (bit c - nI 1)) j = false := by rw [e, ← nI_0, hb_0 (by omega)]
    rw [hb_and (by omega), low_bits c hc j (by omega), decide_eq_true hj, Bool.and_true] at h2
    exact h2
  · intro q
    refine hb_zero fun j hj => ?_
    rw [hb_and hj, low_bits c hc j hj]
    by_cases e : j < c
    · rw [q j e, Bool.false_and]
    · rw [decide_eq_false e, Bool.and_false]
theorem min_ex {g : Int32} : ∀ c, hasB g c = true → ∃ m, m ≤ c ∧ hasB g m = true ∧ ∀ j, j < m → hasB g j = false := by
  intro c
  induction c using Nat.strongRecOn with
  | ind c ih =>
    intro h
    by_cases q : ∃ j, j < c ∧ hasB g j = true
    · obtain ⟨j, hj, hg⟩ := q
      obtain ⟨m, h1, h2, h3⟩ := ih j hj hg
      exact ⟨m, by omega, h2, h3⟩
    · exact ⟨c, Nat.le_refl _, h, fun j hj => Bool.eq_false_iff.mpr fun z => q ⟨j, hj, z⟩⟩
theorem cntF_ct {q : Nat → Bool} : ∀ m, cntF q m = nI (ct q m)
  | 0 => rfl
  | m + 1 => by
    rw [cntF]
    cases e : q m with
    | true => rw [if_pos rfl, cntF_ct m, ct_t e, nI_add]
    | false => rw [if_neg (by decide), cntF_ct m, ct_f e]
theorem cntF_congr {q q' : Nat → Bool} : ∀ m, (∀ i, i < m → q i = q' i) → cntF q m = cntF q' m
  | 0, _ => rfl
  | m + 1, h => by rw [cntF, cntF, cntF_congr m (fun i hi => h i (by omega)), h m (by omega)]
/-- the lowest of one half of a group -/
theorem low_half {gc gd G : Int32} {i a b o : Nat} (hG : ∀ j, j < 32 → hasB G j = (hasB gc j || hasB gd j)) (disj : ∀ j, j < 32 → hasB gc j = true → hasB gd j = true → False) (ha : hasB gc a = true) (ha2 : ∀ j, j < a → hasB gc j = false) (hb : hasB gd b = true) (hb2 : ∀ j, j < b → hasB gd j = false) (hi : i < 24) (ha24 : a < 24) (hb24 : b < 24) (hm : hasB gc i = true) (ho : (a < b ∧ o = b) ∨ (b < a ∧ o = a)) : (lowB gc i).toNat = (lowB G i).toNat + (decide (i = o)).toNat := by
  have hib : i ≠ b := fun e => disj i (by omega) hm (by rw [e]; exact hb)
  have LC : lowB gc i = decide (i = a) := by
    rw [Bool.eq_iff_iff, low_iff hi, decide_eq_true_iff]
    constructor
    · intro q
      rcases Nat.lt_trichotomy i a with h | h | h
      · rw [ha2 i h] at hm; cases hm
      · exact h
      · rw [q a h] at ha; cases ha
    · intro e
      rw [e]; exact ha2
  have LG : lowB G i = decide (i = a ∧ a < b) := by
    rw [Bool.eq_iff_iff, low_iff hi, decide_eq_true_iff]
    constructor
    · intro q
      have e : i = a := by
        rcases Nat.lt_trichotomy i a with h | h | h
        · rw [ha2 i h] at hm; cases hm
        · exact h
        · have := q a h
          rw [hG a (by omega), ha] at this; cases this
      refine ⟨e, ?_⟩
      rcases Nat.lt_trichotomy a b with h | h | h
      · exact h
      · omega
      · have := q b (by omega)
        rw [hG b (by omega), hb, Bool.or_true] at this; cases this
    · rintro ⟨e, hab⟩ j hj
      rw [hG j (by omega), ha2 j (by omega), hb2 j (by omega)]; rfl
  rw [LC, LG]
  by_cases e : i = a
  · rcases ho with ⟨h1, h2⟩ | ⟨h1, h2⟩
    · rw [decide_eq_true e, decide_eq_true (⟨e, h1⟩ : i = a ∧ a < b), decide_eq_false (show ¬ i = o by omega)]; rfl
    · rw [decide_eq_true e, decide_eq_false (show ¬ (i = a ∧ a < b) by omega), decide_eq_true (show i = o by omega)]; rfl
  · rw [decide_eq_false e, decide_eq_false (show ¬ (i = a ∧ a < b) by omega), decide_eq_false (show ¬ i = o by omega)]; rfl
section CUT
variable {K n : Nat} {x : Nat → Nat → Int32}
theorem dis_9 {c d i : Nat} (hi : i < 24) : disX x c d 9 i = if hasB (reaF (cutX x c d 8) d 24) i = true then reaF (cutX x c d 8) d 24 else if hasB (reaF (cutX x c d 8) c 24) i = true then reaF (cutX x c d 8) c 24 else x 9 i := by
  have r8a : disA (cutX x c d) c 8 = cutX x c d 8 := pgF_o (by decide) 24
  show pgF (disA (cutX x c d) c) (reaF (disA (cutX x c d) c 8) d 24) 24 9 i = _
  rw [r8a, pgF_9]
  show (if i < 24 ∧ hasB (reaF (cutX x c d 8) d 24) i = true then reaF (cutX x c d 8) d 24 else pgF (cutX x c d) (reaF (cutX x c d 8) c 24) 24 9 i) = _
  rw [pgF_9, cutX_o (a := 9) (by decide)]
  simp only [hi, true_and]
theorem dis_8 {c d : Nat} : disX x c d 8 = cutX x c d 8 := (pgF_o (by decide) 24).trans (pgF_o (by decide) 24)
theorem Gd.dis (h : Gd K n x) {c d i : Nat} (hc : c < n) (hd : d < n) (hi : i < 24) : disX x c d 9 i = if hasB (disX x c d 9 d) i = true then disX x c d 9 d else if hasB (disX x c d 9 c) i = true then disX x c d 9 c else x 9 i := by
  have h' := Gd_cut h hc hd
  have l := h'.lk
  have gc := h'.grp hc
  have gd := h'.grp hd
  rw [dis_8] at l gc gd
  rw [grp_uniq gc (rea_grp h.n24 l hc), grp_uniq gd (rea_grp h.n24 l hd)]
  exact dis_9 hi
theorem cut_new {c d i j : Nat} (hc : c < 32) (hd : d < 32) (hj : j < 32) (q : hasB (cutX x c d 8 i) j = true) : hasB (x 8 i) j = true := by
  rw [cutX_8 hc hd hj] at q
  simp only [Bool.and_eq_true] at q
  exact q.1.1
theorem cut_old {c d i j : Nat} (hc : c < 32) (hd : d < 32) (hj : j < 32) (q : hasB (x 8 i) j = true) : hasB (cutX x c d 8 i) j = true ∨ (i = c ∧ j = d) ∨ (i = d ∧ j = c) := by
  by_cases h1 : i = c ∧ j = d
  · exact Or.inr (Or.inl h1)
  · by_cases h2 : i = d ∧ j = c
    · exact Or.inr (Or.inr h2)
    · left
      have e1 : (decide (i = c) && decide (j = d)) = false := by rw [← Bool.decide_and]; exact decide_eq_false h1
      have e2 : (decide (i = d) && decide (j = c)) = false := by rw [← Bool.decide_and]; exact decide_eq_false h2
      rw [cutX_8 hc hd hj, q, e1, e2]; rfl
theorem Gd.cut_sub (h : Gd K n x) {c d i j : Nat} (hc : c < n) (hd : d < n) (hi : i < n) (hj : j < 32) (q : hasB (disX x c d 9 i) j = true) : hasB (x 9 i) j = true := by
  have n24 := h.n24
  have g := (Gd_cut h hc hd).grp hi
  rw [dis_8] at g
  exact g.2.2 (fun j => hasB (x 9 i) j = true) (h.self hi) (fun a ha q j hj hl => (h.grp hi).2.1 a ha q j hj (cut_new (by omega) (by omega) hj hl)) j hj q
theorem Gd.cut_or (h : Gd K n x) {c d : Nat} (hc : c < n) (hd : d < n) (hl : hasB (x 8 c) d = true) : disX x c d 9 c ||| disX x c d 9 d = x 9 c := by
  have n24 := h.n24
  have h' := Gd_cut h hc hd
  have gc := h'.grp hc
  have gd := h'.grp hd
  rw [dis_8] at gc gd
  have e := h.linked hc hd hl
  refine hb_ext fun j hj => ?_
  rw [Bool.eq_iff_iff, hb_or hj, Bool.or_eq_true]
  constructor
  · rintro (q | q)
    · exact h.cut_sub hc hd hc hj q
    · rw [e]; exact h.cut_sub hc hd hd hj q
  · intro q
    refine (h.grp hc).2.2 (fun j => hasB (disX x c d 9 c) j = true ∨ hasB (disX x c d 9 d) j = true) (Or.inl gc.1) (fun a ha q j hj hl => ?_) j hj q
    rcases cut_old (c := c) (d := d) (by omega) (by omega) hj hl with z | ⟨rfl, rfl⟩ | ⟨rfl, rfl⟩
    · rcases q with q | q
      · exact Or.inl (gc.2.1 a ha q j hj z)
      · exact Or.inr (gd.2.1 a ha q j hj z)
    · exact Or.inr gd.1
    · exact Or.inl gc.1
theorem Gd.cut_same (h : Gd K n x) {c d : Nat} (hc : c < n) (hd : d < n) (hl : hasB (x 8 c) d = true) (q : hasB (disX x c d 9 c) d = true) : disX x c d 9 c = x 9 c ∧ ∀ i, i < n → disX x c d 9 i = x 9 i := by
  have n24 := h.n24
  have h' := Gd_cut h hc hd
  have e := (h'.tog hc hd).mp q
  have o := h.cut_or hc hd hl
  rw [← e, Int32.or_self] at o
  refine ⟨o, fun i hi => ?_⟩
  rw [h.dis hc hd (by omega), ← e, o]
  by_cases z : hasB (x 9 c) i = true
  · rw [if_pos z]; exact (h.tog hc hi).mp z
  · rw [if_neg z, if_neg z]
theorem Gd.cut_two (h : Gd K n x) {c d : Nat} (hc : c < n) (hd : d < n) (hl : hasB (x 8 c) d = true) (q : hasB (disX x c d 9 c) d = false) : (∀ j, j < 32 → hasB (disX x c d 9 c) j = true → hasB (disX x c d 9 d) j = true → False) ∧ cntF (fun i => lowB (disX x c d 9 i) i) n = cntF (fun i => lowB (x 9 i) i) n + nI 1 := by
  have n24 := h.n24
  have h' := Gd_cut h hc hd
  have orr := h.cut_or hc hd hl
  have dis := fun i (hi : i < 24) => h.dis (i := i) hc hd hi
  have disj : ∀ j, j < 32 → hasB (disX x c d 9 c) j = true → hasB (disX x c d 9 d) j = true → False := fun j hj q1 q2 => by
    have hjn := h'.in hc hj q1
    have e := ((h'.tog hc hjn).mp q1).trans ((h'.tog hd hjn).mp q2).symm
    have := (h'.tog hc hd).mpr e
    rw [q] at this; cases this
  refine ⟨disj, ?_⟩
  obtain ⟨a, a1, a2, a3⟩ := min_ex c (h'.self hc)
  obtain ⟨b, b1, b2, b3⟩ := min_ex d (h'.self hd)
  have hG : ∀ j, j < 32 → hasB (x 9 c) j = (hasB (disX x c d 9 c) j || hasB (disX x c d 9 d) j) := fun j hj => by rw [← orr, hb_or hj]
  have hab : a ≠ b := fun e => disj a (by omega) a2 (by rw [e]; exact b2)
  obtain ⟨o, ho, hon⟩ : ∃ o, ((a < b ∧ o = b) ∨ (b < a ∧ o = a)) ∧ o < n := by
    rcases Nat.lt_or_gt_of_ne hab with z | z
    · exact ⟨b, Or.inl ⟨z, rfl⟩, by omega⟩
    · exact ⟨a, Or.inr ⟨z, rfl⟩, by omega⟩
  have step : ∀ i, i < n → (lowB (disX x c d 9 i) i).toNat = (lowB (x 9 i) i).toNat + (decide (i = o)).toNat := fun i hi => by
    have di := dis i (by omega)
    by_cases zd : hasB (disX x c d 9 d) i = true
    · rw [if_pos zd] at di
      rw [di]
      have e : x 9 i = x 9 c := ((h.tog hc hi).mp (by rw [hG i (by omega), zd, Bool.or_true])).symm
      rw [e]
      exact low_half (gc := disX x c d 9 d) (gd := disX x c d 9 c) (a := b) (b := a) (fun j hj => by rw [hG j hj, Bool.or_comm]) (fun j hj q1 q2 => disj j hj q2 q1) b2 b3 a2 a3 (by omega) (by omega) (by omega) zd (by omega)
    · rw [if_neg zd] at di
      by_cases zc : hasB (disX x c d 9 c) i = true
      · rw [if_pos zc] at di
        rw [di]
        have e : x 9 i = x 9 c := ((h.tog hc hi).mp (by rw [hG i (by omega), zc, Bool.true_or])).symm
        rw [e]
        exact low_half hG disj a2 a3 b2 b3 (by omega) (by omega) (by omega) zc ho
      · rw [if_neg zc] at di
        rw [di, decide_eq_false]
        · rfl
        · intro e
          rcases ho with ⟨-, z⟩ | ⟨-, z⟩
          · exact zd (by rw [e, z]; exact b2)
          · exact zc (by rw [e, z]; exact a2)
  rw [cntF_ct, cntF_ct, nI_add]
  congr 1
  rw [ct_add (P := fun i => lowB (x 9 i) i) (Q := fun i => decide (i = o)) n step]
  have h1 := ct_one (P := fun i => decide (i = o)) n (fun p r _ _ q1 q2 => (of_decide_eq_true q1).trans (of_decide_eq_true q2).symm)
  have h2 := ct_lt (P := fun i => decide (i = o)) hon (decide_eq_true rfl)
  omega
theorem Gd.cutF (h : Gd K n x) {c d : Nat} (hc : c < n) (hd : d < n) (hl : hasB (x 8 c) d = true) :
    (hasB (disX x c d 9 c) d = true → cntF (fun i => lowB (disX x c d 9 i) i) n = cntF (fun i => lowB (x 9 i) i) n ∧ disX x c d 9 c = x 9 c) ∧
    (hasB (disX x c d 9 c) d = false → cntF (fun i => lowB (disX x c d 9 i) i) n = cntF (fun i => lowB (x 9 i) i) n + nI 1 ∧ disX x c d 9 c ||| disX x c d 9 d = x 9 c ∧ disX x c d 9 c &&& disX x c d 9 d = 0) := by
  constructor
  · intro q
    obtain ⟨e1, e2⟩ := h.cut_same hc hd hl q
    exact ⟨cntF_congr n (fun i hi => by rw [e2 i hi]), e1⟩
  · intro q
    obtain ⟨e1, e2⟩ := h.cut_two hc hd hl q
    refine ⟨e2, h.cut_or hc hd hl, hb_zero fun j hj => ?_⟩
    rw [hb_and hj]
    cases a : hasB (disX x c d 9 c) j with
    | false => rfl
    | true =>
      cases b : hasB (disX x c d 9 d) j with
      | false => rfl
      | true => exact (e1 j hj a b).elim
end CUT
