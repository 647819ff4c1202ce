/-! THE NUMBER OF A SET'S MEMBERS, both ways -/
theorem nI_andN (a b : Nat) : nI a &&& nI b = nI (a &&& b) := by
  rw [← Int32.toBitVec_inj, Int32.toBitVec_and]
  show BitVec.ofNat 32 a &&& BitVec.ofNat 32 b = BitVec.ofNat 32 (a &&& b)
  rw [BitVec.ofNat_and]
theorem and256 {b m : Nat} (R M : Nat) (hb : b < 256) (hm : m < 256) : (b + 256 * R) &&& (m + 256 * M) = (b &&& m) + 256 * (R &&& M) := by
  have h1 : ((b + 256 * R) &&& (m + 256 * M)) % 2 ^ 8 = (b &&& m) := by
    rw [Nat.and_mod_two_pow]
    rw [show (b + 256 * R) % 2 ^ 8 = b by omega, show (m + 256 * M) % 2 ^ 8 = m by omega]
  have h2 : ((b + 256 * R) &&& (m + 256 * M)) / 2 ^ 8 = (R &&& M) := by
    rw [Nat.and_div_two_pow]
    rw [show (b + 256 * R) / 2 ^ 8 = R by omega, show (m + 256 * M) / 2 ^ 8 = M by omega]
  omega
theorem ushN {N k : Nat} (hN : N < 2 ^ 32) (hk : k < 32) : ush (nI N) (nI k) = nI (N / 2 ^ k) := by
  have h : ∀ k, k < 32 → (((nI k).toUInt32 &&& Int32.toUInt32 31).toBitVec % 32).toNat = k := by decide +kernel
  exact pk_ushrN hN (nI k) k (h k hk)
/-- a byte's three steps -/
def y1 (b : Nat) : Nat := b - ((b / 2) &&& 85)
def y2 (c : Nat) : Nat := (c &&& 51) + ((c / 4) &&& 51)
def y3 (e : Nat) : Nat := (e + e / 16) &&& 15
def pop8 (b : Nat) : Nat := b % 2 + b / 2 % 2 + b / 4 % 2 + b / 8 % 2 + b / 16 % 2 + b / 32 % 2 + b / 64 % 2 + b / 128 % 2
theorem y_tab : ∀ b, b < 256 → y3 (y2 (y1 b)) = pop8 b ∧ ((b / 2) &&& 85) ≤ b ∧ y1 b < 256 ∧ y2 (y1 b) ≤ 68 ∧ y2 (y1 b) % 16 ≤ 4 ∧ y2 (y1 b) / 16 ≤ 4 ∧ pop8 b ≤ 8 := by decide +kernel
theorem y_s1 : ∀ b, b < 256 → ∀ r, r < 2 → (b / 2 + 128 * r) &&& 85 = (b / 2) &&& 85 := by decide +kernel
theorem y_s2 : ∀ b, b < 256 → ∀ r, r < 4 → (b / 4 + 64 * r) &&& 51 = (b / 4) &&& 51 := by decide +kernel
theorem y_s3 : ∀ e, e < 69 → ∀ r, r < 5 → (e + e / 16 + 16 * r) &&& 15 = (e + e / 16) &&& 15 := by decide +kernel
theorem st1 {b R : Nat} (M : Nat) (hb : b < 256) : (b + 256 * R) / 2 &&& (85 + 256 * M) = ((b / 2) &&& 85) + 256 * (R / 2 &&& M) := by
  rw [show (b + 256 * R) / 2 = (b / 2 + 128 * (R % 2)) + 256 * (R / 2) by omega, and256 _ _ (by omega) (by omega), y_s1 b hb (R % 2) (by omega)]
theorem st2 {b R : Nat} (M : Nat) (hb : b < 256) : (b + 256 * R) / 4 &&& (51 + 256 * M) = ((b / 4) &&& 51) + 256 * (R / 4 &&& M) := by
  rw [show (b + 256 * R) / 4 = (b / 4 + 64 * (R % 4)) + 256 * (R / 4) by omega, and256 _ _ (by omega) (by omega), y_s2 b hb (R % 4) (by omega)]
theorem lastS {k0 k1 k2 k3 : Nat} (h0 : k0 ≤ 8) (h1 : k1 ≤ 8) (h2 : k2 ≤ 8) (h3 : k3 ≤ 8) : (k0 + 256 * (k1 + 256 * (k2 + 256 * k3)) + (k0 + 256 * (k1 + 256 * (k2 + 256 * k3))) / 2 ^ 8 + (k0 + 256 * (k1 + 256 * (k2 + 256 * k3)) + (k0 + 256 * (k1 + 256 * (k2 + 256 * k3))) / 2 ^ 8) / 2 ^ 16) % 2 ^ 6 = k0 + k1 + k2 + k3 := by
  have e1 : (k0 + 256 * (k1 + 256 * (k2 + 256 * k3))) / 2 ^ 8 = k1 + 256 * (k2 + 256 * k3) := by omega
  rw [e1]
  have e2 : (k0 + 256 * (k1 + 256 * (k2 + 256 * k3)) + (k1 + 256 * (k2 + 256 * k3))) / 2 ^ 16 = (k2 + k3) + 256 * k3 := by omega
  rw [e2]
  rw [show k0 + 256 * (k1 + 256 * (k2 + 256 * k3)) + (k1 + 256 * (k2 + 256 * k3)) + (k2 + k3 + 256 * k3) = (k0 + k1 + k2 + k3) + 2 ^ 6 * (4 * (k1 + 256 * (k2 + 256 * k3)) + 4 * (k2 + 256 * k3) + 4 * k3) by omega]
  rw [Nat.add_mul_mod_self_left]
  exact Nat.mod_eq_of_lt (by omega)
theorem pop8_mod (M : Nat) : pop8 (M % 256) = pop8 M := by
  unfold pop8
  rw [show M % 256 % 2 = M % 2 by omega, show M % 256 / 2 % 2 = M / 2 % 2 by omega, show M % 256 / 4 % 2 = M / 4 % 2 by omega, show M % 256 / 8 % 2 = M / 8 % 2 by omega, show M % 256 / 16 % 2 = M / 16 % 2 by omega, show M % 256 / 32 % 2 = M / 32 % 2 by omega, show M % 256 / 64 % 2 = M / 64 % 2 by omega, show M % 256 / 128 % 2 = M / 128 % 2 by omega]
theorem bcN {b0 b1 b2 b3 : Nat} (h0 : b0 < 256) (h1 : b1 < 256) (h2 : b2 < 256) (h3 : b3 < 256) : bc (nI (b0 + 256 * (b1 + 256 * (b2 + 256 * b3)))) = nI (pop8 b0 + pop8 b1 + pop8 b2 + pop8 b3) := by
  obtain ⟨p0, q0, r0, s0, t0, u0, v0⟩ := y_tab b0 h0
  obtain ⟨p1, q1, r1, s1, t1, u1, v1⟩ := y_tab b1 h1
  obtain ⟨p2, q2, r2, s2, t2, u2, v2⟩ := y_tab b2 h2
  obtain ⟨p3, q3, r3, s3, t3, u3, v3⟩ := y_tab b3 h3
  have e5 : (1431655765 : Int32) = nI (85 + 256 * (85 + 256 * (85 + 256 * 85))) := by decide
  have e3 : (858993459 : Int32) = nI (51 + 256 * (51 + 256 * (51 + 256 * 51))) := by decide
  have ef : (252645135 : Int32) = nI (15 + 256 * (15 + 256 * (15 + 256 * 15))) := by decide
  have a1 : (b0 + 256 * (b1 + 256 * (b2 + 256 * b3))) / 2 &&& (85 + 256 * (85 + 256 * (85 + 256 * 85))) = ((b0 / 2) &&& 85) + 256 * (((b1 / 2) &&& 85) + 256 * (((b2 / 2) &&& 85) + 256 * ((b3 / 2) &&& 85))) := by
    rw [st1 _ h0, st1 _ h1, st1 _ h2]
  have A : bcA (nI (b0 + 256 * (b1 + 256 * (b2 + 256 * b3)))) = nI (y1 b0 + 256 * (y1 b1 + 256 * (y1 b2 + 256 * y1 b3))) := by
    unfold bcA
    rw [ushN (k := 1) (by omega) (by decide), e5, nI_andN, a1, pk_sub (by omega)]
    congr 1
    unfold y1
    omega
  have a2 : (y1 b0 + 256 * (y1 b1 + 256 * (y1 b2 + 256 * y1 b3))) / 4 &&& (51 + 256 * (51 + 256 * (51 + 256 * 51))) = ((y1 b0 / 4) &&& 51) + 256 * (((y1 b1 / 4) &&& 51) + 256 * (((y1 b2 / 4) &&& 51) + 256 * ((y1 b3 / 4) &&& 51))) := by
    rw [st2 _ r0, st2 _ r1, st2 _ r2]
  have a3 : (y1 b0 + 256 * (y1 b1 + 256 * (y1 b2 + 256 * y1 b3))) &&& (51 + 256 * (51 + 256 * (51 + 256 * 51))) = (y1 b0 &&& 51) + 256 * ((y1 b1 &&& 51) + 256 * ((y1 b2 &&& 51) + 256 * (y1 b3 &&& 51))) := by
    rw [and256 _ _ r0 (by omega), and256 _ _ r1 (by omega), and256 _ _ r2 (by omega)]
  have B : bcB (nI (y1 b0 + 256 * (y1 b1 + 256 * (y1 b2 + 256 * y1 b3)))) = nI (y2 (y1 b0) + 256 * (y2 (y1 b1) + 256 * (y2 (y1 b2) + 256 * y2 (y1 b3)))) := by
    unfold bcB
    rw [ushN (k := 2) (by omega) (by decide), e3, nI_andN, nI_andN, show 2 ^ 2 = 4 from rfl, a2, a3, nI_add]
    congr 1
    unfold y2
    omega
  generalize y2 (y1 b0) = c0 at *
  generalize y2 (y1 b1) = c1 at *
  generalize y2 (y1 b2) = c2 at *
  generalize y2 (y1 b3) = c3 at *
  have C : bcC (nI (c0 + 256 * (c1 + 256 * (c2 + 256 * c3)))) = nI (pop8 b0 + 256 * (pop8 b1 + 256 * (pop8 b2 + 256 * pop8 b3))) := by
    unfold bcC
    rw [ushN (k := 4) (by omega) (by decide), nI_add, ef, nI_andN]
    congr 1
    rw [show c0 + 256 * (c1 + 256 * (c2 + 256 * c3)) + (c0 + 256 * (c1 + 256 * (c2 + 256 * c3))) / 2 ^ 4 = (c0 + c0 / 16 + 16 * (c1 % 16)) + 256 * ((c1 + c1 / 16 + 16 * (c2 % 16)) + 256 * ((c2 + c2 / 16 + 16 * (c3 % 16)) + 256 * (c3 + c3 / 16))) by omega]
    rw [and256 _ _ (by omega) (by omega), and256 _ _ (by omega) (by omega), and256 _ _ (by omega) (by omega), y_s3 c0 (by omega) _ (by omega), y_s3 c1 (by omega) _ (by omega), y_s3 c2 (by omega) _ (by omega)]
    have g0 : (c0 + c0 / 16) &&& 15 = pop8 b0 := p0
    have g1 : (c1 + c1 / 16) &&& 15 = pop8 b1 := p1
    have g2 : (c2 + c2 / 16) &&& 15 = pop8 b2 := p2
    have g3 : (c3 + c3 / 16) &&& 15 = pop8 b3 := p3
    rw [g0, g1, g2, g3]
  unfold bc
  rw [A, B, C]
  generalize pop8 b0 = k0 at *
  generalize pop8 b1 = k1 at *
  generalize pop8 b2 = k2 at *
  generalize pop8 b3 = k3 at *
  rw [ushN (k := 8) (by omega) (by decide), nI_add, ushN (k := 16) (by omega) (by decide), nI_add, nI_andN]
  congr 1
  rw [show (63 : Nat) = 2 ^ 6 - 1 from rfl, Nat.and_two_pow_sub_one_eq_mod]
  exact lastS v0 v1 v2 v3
/-- bit i of a number -/
theorem shr1 {N i : Nat} (hN : N < 2 ^ 31) (hi : i < 31) : ((nI N >>> (nI i &&& 31)) &&& nI 1) = nI (N / 2 ^ i % 2) := by
  have hs : ∀ l, l < 32 → ((nI l &&& 31).toBitVec.smod 32).toNat = l := by decide +kernel
  rw [pk_shrN hN (nI i &&& 31) i (hs i (by omega)), nI_andN, show (1 : Nat) = 2 ^ 1 - 1 from rfl, Nat.and_two_pow_sub_one_eq_mod]
def sumB (N : Nat) : Nat → Nat
  | 0 => 0
  | i + 1 => sumB N i + N / 2 ^ i % 2
theorem cntV_sum {N : Nat} (hN : N < 2 ^ 31) : ∀ i, i ≤ 30 → cntV (nI N) i = nI (sumB N i)
  | 0, _ => rfl
  | i + 1, h => by rw [cntV, cntV_sum hN i (by omega), shr1 hN (by omega), nI_add, sumB]
theorem bc_cnt {N : Nat} (hN : N < 2 ^ 30) : bc (nI N) = cntV (nI N) 30 ∧ ∃ k, k ≤ 30 ∧ bc (nI N) = nI k := by
  have e : N = N % 256 + 256 * (N / 256 % 256 + 256 * (N / 65536 % 256 + 256 * (N / 16777216))) := by omega
  have hs : sumB N 30 = pop8 (N % 256) + pop8 (N / 256 % 256) + pop8 (N / 65536 % 256) + pop8 (N / 16777216) := by
    rw [pop8_mod, pop8_mod, pop8_mod]
    have z30 : N / 1073741824 = 0 := Nat.div_eq_of_lt hN
    have z31 : N / 2147483648 = 0 := Nat.div_eq_of_lt (by omega)
    simp only [sumB, pop8, Nat.div_div_eq_div_mul, Nat.reducePow, Nat.reduceMul, Nat.zero_add, Nat.add_assoc, Nat.div_one, z30, z31, Nat.zero_mod, Nat.add_zero]
  have hb : bc (nI N) = nI (sumB N 30) := by
    rw [hs]
    conv => lhs; rw [e]
    exact bcN (by omega) (by omega) (by omega) (by omega)
  refine ⟨by rw [hb, cntV_sum (by omega) 30 (Nat.le_refl _)], sumB N 30, ?_, hb⟩
  have key : ∀ i, sumB N i ≤ i := by
    intro i
    induction i with
    | zero => exact Nat.le_refl _
    | succ i ih => rw [sumB]; omega
  exact key 30
/-- a set of values 0 to 29 -/
def fit30 (a : Int32) : Prop := ∃ N, N < 2 ^ 30 ∧ a = nI N
theorem fit30_and {a b : Int32} (ha : fit30 a) (hb : fit30 b) : fit30 (a &&& b) := by
  obtain ⟨N, hN, rfl⟩ := ha
  obtain ⟨M, hM, rfl⟩ := hb
  exact ⟨N &&& M, Nat.lt_of_le_of_lt Nat.and_le_left hN, nI_andN N M⟩
theorem fit30_iff {a : Int32} : fit30 a ↔ hasB a 30 = false ∧ hasB a 31 = false := by
  constructor
  · rintro ⟨N, hN, rfl⟩
    have key : ∀ j, j < 32 → 30 ≤ j → hasB (nI N) j = false := by
      intro j hj h
      rw [hb_bv hj, show (nI N).toBitVec = BitVec.ofNat 32 N from rfl, BitVec.getLsbD_ofNat]
      rw [Nat.testBit_lt_two_pow (Nat.lt_of_lt_of_le hN (Nat.pow_le_pow_right (by decide) h))]
      simp
    exact ⟨key 30 (by decide) (by decide), key 31 (by decide) (by decide)⟩
  · rintro ⟨h1, h2⟩
    refine ⟨a.toBitVec.toNat, ?_, ?_⟩
    · apply Nat.lt_pow_two_of_testBit
      intro i hi
      by_cases h : i < 32
      · rcases (show i = 30 ∨ i = 31 by omega) with rfl | rfl
        · rw [hb_bv (by decide)] at h1; exact h1
        · rw [hb_bv (by decide)] at h2; exact h2
      · exact BitVec.testBit_toNat .. ▸ BitVec.getLsbD_of_ge _ _ (by omega)
    · rw [← Int32.toBitVec_inj]
      show a.toBitVec = BitVec.ofNat 32 a.toBitVec.toNat
      simp
theorem cnt_eq {a : Int32} (h : fit30 a) : bc a = cntV a 30 := by
  obtain ⟨N, hN, rfl⟩ := h
  exact (bc_cnt hN).1
theorem cnt_le {a : Int32} (h : fit30 a) : ∃ k, k ≤ 30 ∧ bc a = nI k := by
  obtain ⟨N, hN, rfl⟩ := h
  exact (bc_cnt hN).2
