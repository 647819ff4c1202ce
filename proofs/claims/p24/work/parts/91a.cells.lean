/-! the cells at the loop's head, in the class's order -/
def pm (k : Nat) : Nat := if k < 2 then k else if k = 2 then 15 else if k = 3 then 18 else if k = 4 then 2 else if k = 5 then 3 else if k = 6 then 7 else if k = 7 then 14 else if k = 8 then 16 else if k = 9 then 17 else if k = 10 then 19 else if k = 11 then 20 else if k = 12 then 45 else if k < 16 then k - 9 else if k < 22 then k - 8 else if k < 46 then k - 1 else 46
theorem pm_lt : ∀ k, k < 47 → pm k < 47 := by decide +kernel
theorem pm_inj : ∀ i, i < 47 → ∀ j, j < 47 → pm i = pm j → i = j := by decide +kernel
theorem pm_hi : ∀ k, k < 46 → 22 ≤ k → pm k = k - 1 := by decide +kernel
theorem pm_lo : ∀ k, k < 22 → pm k < 46 := by decide +kernel
def adC (sz k : Nat) : Nat := sz + pm k
theorem adn_q {a sz k : Nat} (h : sz = a + 1) : adn a sz k = a + k := by
  subst h
  unfold adn
  by_cases e : k = 0
  · rw [if_pos e, e]; rfl
  · rw [if_neg e]; omega
theorem at_q {D : va_G} {H : Heap} {a n : Nat} {cA : ClassId} {g g' : Nat → Option Nat} (h : va_at D vwCl (a, .inl (cA, n, .inr (.inr (.inr (.inr g))))) H) (e : ∀ t, t < n → g t = g' t) : va_at D vwCl (a, .inl (cA, n, .inr (.inr (.inr (.inr g'))))) H := by
  have h' : H[a]? = some (vp_cell cA (n, .inr (.inr (.inr (.inr g))))) := h
  show H[a]? = some (vp_cell cA (n, .inr (.inr (.inr (.inr g')))))
  rw [h', vp_cell_q, vp_cell_q]
  exact congrArg some (arrV_congr fun t ht => by rw [e t ht])
/-- the class's object and its cells, one behind the other -/
def seqF (cI cA : ClassId) (sz : Nat) : Nat → va_E := fun k =>
  if k = 0 then .inr (3, [.ref (sz + 1), .ref (sz + 15), .ref (sz + 18), .ref (sz + 45)])
  else if k = 1 then .inr (0, [.ref (sz + 2), .ref (sz + 3), .ref (sz + 7), .ref (sz + 14), .int (nI 0)])
  else if k = 3 then .inl (cA, 3, .inr (.inr (.inr (.inr (fun t => some (sz + (4 + t)))))))
  else if k = 7 then .inl (cA, 6, .inr (.inr (.inr (.inr (fun t => some (sz + (8 + t)))))))
  else if k = 15 then .inr (1, [.ref (sz + 16), .ref (sz + 17)])
  else if k = 17 then .inl (cI, 24, .inl (gI0 24))
  else if k = 18 then .inr (2, [.ref (sz + 19), .ref (sz + 20)])
  else if k = 20 then .inl (cA, 24, .inr (.inr (.inr (.inr (fun t => some (sz + (21 + t)))))))
  else if k = 45 then .inl (cI, 153, .inl (fun _ => nI 0))
  else if 21 ≤ k then .inl (cI, 24, .inl (gM 24 0 (k - 21)))
  else .inl (cI, 24, .inl (fun _ => nI 0))
theorem cl3_seq {cI cA : ClassId} {sz k : Nat} (hk : k < 46) : cl3F cI cA sz (sz + 1) k = seqF cI cA sz k := by
  have e0 : ∀ k, adn sz (sz + 1) k = sz + k := fun k => adn_q rfl
  have e1 : ∀ k, adn (sz + 1) (sz + 1 + 1) k = sz + 1 + k := fun k => adn_q rfl
  have e15 : ∀ k, adn (sz + 15) (sz + 1 + 15) k = sz + 15 + k := fun k => adn_q (by omega)
  have e18 : ∀ k, adn (sz + 18) (sz + 1 + 18) k = sz + 18 + k := fun k => adn_q (by omega)
  unfold cl3F caF liF reF seqF
  simp only [e0, e1, e15, e18]
  rcases (by omega : k = 0 ∨ k = 1 ∨ k = 2 ∨ k = 3 ∨ k = 4 ∨ k = 5 ∨ k = 6 ∨ k = 7 ∨ k = 8 ∨ k = 9 ∨ k = 10 ∨ k = 11 ∨ k = 12 ∨ k = 13 ∨ k = 14 ∨ k = 15 ∨ k = 16 ∨ k = 17 ∨ k = 18 ∨ k = 19 ∨ k = 20 ∨ k = 21 ∨ k = 22 ∨ k = 23 ∨ k = 24 ∨ k = 25 ∨ k = 26 ∨ k = 27 ∨ k = 28 ∨ k = 29 ∨ k = 30 ∨ k = 31 ∨ k = 32 ∨ k = 33 ∨ k = 34 ∨ k = 35 ∨ k = 36 ∨ k = 37 ∨ k = 38 ∨ k = 39 ∨ k = 40 ∨ k = 41 ∨ k = 42 ∨ k = 43 ∨ k = 44 ∨ k = 45) with rfl | rfl | rfl | rfl | rfl | rfl | rfl | rfl | rfl | rfl | rfl | rfl | rfl | rfl | rfl | rfl | rfl | rfl | rfl | rfl | rfl | rfl | rfl | rfl | rfl | rfl | rfl | rfl | rfl | rfl | rfl | rfl | rfl | rfl | rfl | rfl | rfl | rfl | rfl | rfl | rfl | rfl | rfl | rfl | rfl | rfl <;> simp [Nat.add_assoc] <;> (try (funext t; exact congrArg some (by omega)))
theorem start_o {D : va_G} {H : Heap} {cI cA : ClassId} {sz : Nat} {f : Nat → va_E} {sn : Nat → Int32} (hP : va_P D vwCl (wl (fun k => sz + k) f 47) H) (h1 : ∀ k, k < 46 → f k = seqF cI cA sz k) (h3 : f 46 = .inl (cI, 24, .inl sn)) : va_P D vwCl (wl (adC sz) (sF cI cA (adC sz) 0 x0 sn) 47) H := fun k q hq => by
  obtain ⟨hk, rfl⟩ := wl_of hq
  have h2 := hP (pm k) _ (wl_at (pm_lt k hk))
  by_cases e46 : k = 46
  · subst e46
    have h2 : va_at D vwCl (sz + 46, f 46) H := h2
    rw [h3] at h2
    exact h2
  · rw [sF_c (by omega)]
    by_cases h22 : 22 ≤ k
    · have hp : pm k = k - 1 := pm_hi k (by omega) h22
      rw [cF_a (by omega), x0_22 h22]
      have e2 : f (pm k) = .inl (cI, 24, .inl (gM 24 0 (k - 22))) := by
        rw [hp, h1 _ (by omega)]
        unfold seqF
        rw [if_neg (by omega), if_neg (by omega), if_neg (by omega), if_neg (by omega), if_neg (by omega), if_neg (by omega), if_neg (by omega), if_neg (by omega), if_neg (by omega), if_pos (by omega), show k - 1 - 21 = k - 22 by omega]
      have h2 : va_at D vwCl (adC sz k, f (pm k)) H := h2
      rw [e2, show gM 24 0 (k - 22) = (fun j => if j < 24 then -1 else nI 0) from funext fun t => if_pos (Or.inl (by omega))] at h2
      exact h2
    · have h9 : f (pm k) = seqF cI cA sz (pm k) := h1 _ (pm_lo k (by omega))
      have h2 : va_at D vwCl (adC sz k, f (pm k)) H := h2
      rw [h9] at h2
      rcases (by omega : k = 0 ∨ k = 1 ∨ k = 2 ∨ k = 3 ∨ k = 4 ∨ k = 5 ∨ k = 6 ∨ k = 7 ∨ k = 8 ∨ k = 9 ∨ k = 10 ∨ k = 11 ∨ k = 12 ∨ k = 13 ∨ k = 14 ∨ k = 15 ∨ k = 16 ∨ k = 17 ∨ k = 18 ∨ k = 19 ∨ k = 20 ∨ k = 21) with rfl | rfl | rfl | rfl | rfl | rfl | rfl | rfl | rfl | rfl | rfl | rfl | rfl | rfl | rfl | rfl | rfl | rfl | rfl | rfl | rfl | rfl
      · exact h2
      · exact h2
      · exact h2
      · exact h2
      · exact h2
      · exact at_q h2 (fun t ht => by rcases (by omega : t = 0 ∨ t = 1 ∨ t = 2) with rfl | rfl | rfl <;> rfl)
      · exact at_q h2 (fun t ht => by rcases (by omega : t = 0 ∨ t = 1 ∨ t = 2 ∨ t = 3 ∨ t = 4 ∨ t = 5) with rfl | rfl | rfl | rfl | rfl | rfl <;> rfl)
      · exact h2
      · exact h2
      · exact h2
      · exact h2
      · refine at_q h2 (fun t ht => ?_)
        have : pm (t + 22) = 21 + t := (pm_hi (t + 22) (by omega) (by omega)).trans (by omega)
        show some (sz + (21 + t)) = some (sz + pm (t + 22))
        rw [this]
      · exact h2
      all_goals exact h2
