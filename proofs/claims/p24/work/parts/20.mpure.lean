/-! THE REFERENCE'S WORDS, on its numbers y -/
def inB (v a b : Int32) : Bool := decide (¬ v < a) && decide (¬ b < v)
theorem i_lt (a b : Int32) : a < b ↔ a.toInt < b.toInt := Int32.lt_iff_toInt_lt
theorem i_eq (a b : Int32) : a = b ↔ a.toInt = b.toInt := ⟨fun h => by rw [h], fun h => Int32.toInt_inj.mp h⟩
theorem inB_card {n : Nat} {a : Int32} (hn : n ≤ 24) : inB a (nI 0) (nI n - nI 1) = cardB n a := by
  have e1 : (nI n - nI 1).toInt = (n : Int) - 1 := by rw [pk_sub_toInt (by omega) (by omega)]; rfl
  have e2 : (nI n).toInt = (n : Int) := nI_toInt (by omega)
  have e3 : (0 : Int32).toInt = 0 := by decide
  unfold inB cardB
  rw [nI_0]
  congr 1
  rw [decide_eq_decide, i_lt, i_lt, e1, e2]
  omega
theorem inB_book {a : Int32} : inB a (nI 0) (nI 2) = bookB a := by
  have e1 : (nI 2).toInt = 2 := by decide
  have e2 : (nI 3).toInt = 3 := by decide
  unfold inB bookB
  rw [nI_0]
  congr 1
  rw [decide_eq_decide, i_lt, i_lt, e1, e2]
  omega
theorem inB_two {a : Int32} : inB a (nI 0) (nI 1) = (decide (a = 0) || decide (a = nI 1)) := by
  have e1 : (nI 1).toInt = 1 := by decide
  have e3 : (0 : Int32).toInt = 0 := by decide
  unfold inB
  rw [nI_0, Bool.eq_iff_iff]
  simp only [Bool.and_eq_true, Bool.or_eq_true, decide_eq_true_eq, i_lt, i_eq, e1, e3]
  omega
theorem inB_kind {a : Int32} : inB a (nI 0) (nI 1) = kindB a := inB_two
theorem inB_chg {a : Int32} : inB a (nI 0) (nI 1) = chgB a := inB_two
theorem inB_ver {a : Int32} : inB a (nI 0) (nI 2) = verB a := by
  have e1 : (nI 1).toInt = 1 := by decide
  have e2 : (nI 2).toInt = 2 := by decide
  have e3 : (0 : Int32).toInt = 0 := by decide
  unfold inB verB chgB
  rw [nI_0, Bool.eq_iff_iff]
  simp only [Bool.and_eq_true, Bool.or_eq_true, decide_eq_true_eq, i_lt, i_eq, e1, e2, e3]
  omega
theorem inB_name {a : Int32} : inB a (nI 0) (nI 31) = nameB a := by
  have e1 : (nI 31).toInt = 31 := by decide
  have e2 : (nI 32).toInt = 32 := by decide
  unfold inB nameB
  rw [nI_0]
  congr 1 <;> (rw [decide_eq_decide, i_lt, Int32.le_iff_toInt_le, e1, e2] <;> omega)
theorem inB_value {a : Int32} : inB a (nI 0) (nI 29) = valueB a := by
  have e1 : (nI 29).toInt = 29 := by decide
  have e2 : (nI 30).toInt = 30 := by decide
  unfold inB valueB
  rw [nI_0]
  congr 1 <;> (rw [decide_eq_decide, i_lt, Int32.le_iff_toInt_le, e1, e2] <;> omega)
theorem cardB_ok {n c : Nat} (h : c < n) (hn : n ≤ 24) : cardB n (nI c) = true := by
  simp [cardB, nI_pos (show c < 2 ^ 31 by omega), nI_lt h (by omega)]
theorem bit_bv : ∀ l, l < 32 → (bit l).toBitVec = BitVec.twoPow 32 l := by decide +kernel
/-- membership, by the bits -/
theorem hb_bv {s : Int32} {v : Nat} (hv : v < 32) : hasB s v = s.toBitVec.getLsbD v := by
  unfold hasB
  rw [Bool.eq_iff_iff, decide_eq_true_eq]
  rw [ne_eq, ← Int32.toBitVec_inj, Int32.toBitVec_and, bit_bv v hv]
  rw [show (0 : Int32).toBitVec = 0#32 from rfl]
  constructor
  · intro h
    cases hb : s.toBitVec.getLsbD v with
    | true => rfl
    | false =>
      refine absurd ?_ h
      apply BitVec.eq_of_getLsbD_eq
      intro i hi
      rw [BitVec.getLsbD_and, BitVec.getLsbD_twoPow]
      by_cases e : v = i
      · subst e; simp [hb]
      · simp [e]
  · intro h e
    have h9 : (s.toBitVec &&& BitVec.twoPow 32 v).getLsbD v = (0#32).getLsbD v := by rw [e]
    rw [BitVec.getLsbD_and, h, BitVec.getLsbD_twoPow] at h9
    simp [hv] at h9
theorem hb_or {a b : Int32} {v : Nat} (hv : v < 32) : hasB (a ||| b) v = (hasB a v || hasB b v) := by
  rw [hb_bv hv, hb_bv hv, hb_bv hv, Int32.toBitVec_or, BitVec.getLsbD_or]
theorem hb_and {a b : Int32} {v : Nat} (hv : v < 32) : hasB (a &&& b) v = (hasB a v && hasB b v) := by
  rw [hb_bv hv, hb_bv hv, hb_bv hv, Int32.toBitVec_and, BitVec.getLsbD_and]
theorem hb_xor {a b : Int32} {v : Nat} (hv : v < 32) : hasB (a ^^^ b) v = (hasB a v ^^ hasB b v) := by
  rw [hb_bv hv, hb_bv hv, hb_bv hv, Int32.toBitVec_xor, BitVec.getLsbD_xor]
theorem hb_0 {v : Nat} (hv : v < 32) : hasB (nI 0) v = false := by
  rw [hb_bv hv, show (nI 0).toBitVec = 0#32 from rfl, BitVec.getLsbD_zero]
theorem hb_m1 {v : Nat} (hv : v < 32) : hasB (-1) v = true := by
  rw [hb_bv hv, show (-1 : Int32).toBitVec = BitVec.allOnes 32 from by decide, BitVec.getLsbD_allOnes]
  simp [hv]
theorem hb_bit {c v : Nat} (hc : c < 32) (hv : v < 32) : hasB (bit c) v = decide (c = v) := by
  rw [hb_bv hv, bit_bv c hc, BitVec.getLsbD_twoPow]
  simp [hc]
theorem hb_ext {a b : Int32} (h : ∀ v, v < 32 → hasB a v = hasB b v) : a = b := by
  rw [← Int32.toBitVec_inj]
  apply BitVec.eq_of_getLsbD_eq
  intro i hi
  rw [← hb_bv hi, ← hb_bv hi]
  exact h i hi
/-- the reference's 'has' is the class's -/
theorem mhas {s : Int32} {v : Nat} (hv : v < 32) : ((s >>> (nI v &&& 31)) &&& nI 1 = nI 1) ↔ hasB s v = true := by
  have hs : ∀ l, l < 32 → ((nI l &&& 31).toBitVec.smod 32).toNat = l := by decide +kernel
  have hbit : hasB s v = s.toBitVec.getLsbD v := hb_bv hv
  rw [hbit, ← Int32.toBitVec_inj, Int32.toBitVec_and, Int32.toBitVec_shiftRight, show (nI 1).toBitVec = 1#32 from rfl]
  rw [show s.toBitVec.sshiftRight' ((nI v &&& 31).toBitVec.smod 32) = s.toBitVec.sshiftRight v from by rw [BitVec.sshiftRight', hs v hv]]
  constructor
  · intro e
    have h9 : (s.toBitVec.sshiftRight v &&& 1#32).getLsbD 0 = (1#32).getLsbD 0 := by rw [e]
    rw [BitVec.getLsbD_and, BitVec.getLsbD_sshiftRight] at h9
    simpa [hv] using h9
  · intro h
    apply BitVec.eq_of_getLsbD_eq
    intro i hi
    rw [BitVec.getLsbD_and]
    by_cases e : i = 0
    · subst e
      simp [BitVec.getLsbD_sshiftRight, hv, h]
    · have : (1#32).getLsbD i = false := by
        rw [show (1#32) = BitVec.twoPow 32 0 from rfl, BitVec.getLsbD_twoPow]
        simp [Ne.symm e]
      simp [this]
def cntV (a : Int32) : Nat → Int32
  | 0 => nI 0
  | i + 1 => cntV a i + ((a >>> (nI i &&& 31)) &&& nI 1)
def chF (y : Nat → Nat → Int32) (c : Nat) : Nat → Nat → Nat → Int32
  | 0 => up2 y 6 c (nI 0)
  | i + 1 => up2 (chF y c i) 6 i (chF y c i 6 i &&& (bit c ^^^ (-1)))
def mputS (y : Nat → Nat → Int32) (n c v k : Nat) (w : Int32) : Nat → Nat → Int32 := up2 (if v = 0 ∧ y 3 (6 * c + 2 * v + k) ≠ w then chF y c n else y) 3 (6 * c + 2 * v + k) w
def mputN (y : Nat → Nat → Int32) (n c v : Nat) (w : Int32) : Nat → Nat → Int32 := up2 (if v = 0 ∧ y 2 (3 * c + v) ≠ w then chF y c n else y) 2 (3 * c + v) w
theorem mputN_a {y : Nat → Nat → Int32} {n c v : Nat} {w : Int32} (h : v = 0) (h2 : ¬ y 2 (3 * c + v) = w) : mputN y n c v w = up2 (chF y c n) 2 (3 * c + v) w := by rw [mputN, if_pos ⟨h, h2⟩]
theorem mputN_b {y : Nat → Nat → Int32} {n c v : Nat} {w : Int32} (h : v ≠ 0) : mputN y n c v w = up2 y 2 (3 * c + v) w := by rw [mputN, if_neg (fun q => h q.1)]
theorem mputN_c {y : Nat → Nat → Int32} {n c v : Nat} {w : Int32} (h2 : y 2 (3 * c + v) = w) : mputN y n c v w = up2 y 2 (3 * c + v) w := by rw [mputN, if_neg (fun q => q.2 h2)]
theorem mputS_a {y : Nat → Nat → Int32} {n c v k : Nat} {w : Int32} (h : v = 0) (h2 : ¬ y 3 (6 * c + 2 * v + k) = w) : mputS y n c v k w = up2 (chF y c n) 3 (6 * c + 2 * v + k) w := by rw [mputS, if_pos ⟨h, h2⟩]
theorem mputS_b {y : Nat → Nat → Int32} {n c v k : Nat} {w : Int32} (h : v ≠ 0) : mputS y n c v k w = up2 y 3 (6 * c + 2 * v + k) w := by rw [mputS, if_neg (fun q => h q.1)]
theorem mputS_c {y : Nat → Nat → Int32} {n c v k : Nat} {w : Int32} (h2 : y 3 (6 * c + 2 * v + k) = w) : mputS y n c v k w = up2 y 3 (6 * c + 2 * v + k) w := by rw [mputS, if_neg (fun q => q.2 h2)]
def mNm (y : Nat → Nat → Int32) (c : Nat) : Int32 := mrgN (y 2 (3 * c)) (y 2 (3 * c + 1)) (y 2 (3 * c + 2))
def mSt (y : Nat → Nat → Int32) (c k : Nat) : Int32 := mrg (y 3 (6 * c + k)) (y 3 (6 * c + k + 2)) (y 3 (6 * c + k + 4))
def mputV (y : Nat → Nat → Int32) (n c v : Nat) (w a b : Int32) : Nat → Nat → Int32 := mputN (mputS (mputS y n c v 0 a) n c v 1 b) n c v w
def mmergeV (y : Nat → Nat → Int32) (n c : Nat) : Nat → Nat → Int32 := mputV (mputV (mputV y n c 0 (mNm y c) (mSt y c 0) (mSt y c 1)) n c 1 (mNm y c) (mSt y c 0) (mSt y c 1)) n c 2 (mNm y c) (mSt y c 0) (mSt y c 1)
def mappE (y : Nat → Nat → Int32) (n : Nat) (b w : Int32) : Nat → Nat → Int32 := up2 (up2 (up2 (up2 y 1 n b) 2 (3 * n) w) 2 (3 * n + 1) w) 2 (3 * n + 2) w
def mcl (y : Nat → Nat → Int32) (c : Nat) : Bool := clB (y 2 (3 * c)) (y 2 (3 * c + 1)) (y 2 (3 * c + 2))
def msyS (y : Nat → Nat → Int32) (n : Nat) (b : Int32) : Nat → Nat → Nat → Int32
  | 0 => y
  | i + 1 => if msyS y n b i 1 i = b then mmergeV (msyS y n b i) n i else msyS y n b i
def msyC (y : Nat → Nat → Int32) (n : Nat) (b : Int32) : Nat → Int32
  | 0 => nI 0
  | i + 1 => if msyS y n b i 1 i = b then msyC y n b i + (if mcl (msyS y n b i) i = true then nI 1 else nI 0) else msyC y n b i
def msynB (y : Nat → Nat → Int32) (c : Nat) : Bool := decide (y 2 (3 * c) = mNm y c) && decide (y 3 (6 * c) = mSt y c 0) && decide (y 3 (6 * c + 1) = mSt y c 1) && decide (y 2 (3 * c + 1) = mNm y c) && decide (y 3 (6 * c + 2) = mSt y c 0) && decide (y 3 (6 * c + 3) = mSt y c 1) && decide (y 2 (3 * c + 2) = mNm y c) && decide (y 3 (6 * c + 4) = mSt y c 0) && decide (y 3 (6 * c + 5) = mSt y c 1)
def musC (y : Nat → Nat → Int32) (b : Int32) : Nat → Int32
  | 0 => nI 0
  | i + 1 => musC y b i + (if y 1 i = b ∧ msynB y i = false then nI 1 else nI 0)
/-- groups: the way of the reference -/
def pasF (L : Nat → Int32) (a : Int32) : Nat → Int32
  | 0 => a
  | i + 1 => pasF L a i ||| (if hasB (pasF L a i) i = true then L i else nI 0)
/-- r is the set of all to which one comes from c by L -/
def isGrp (L : Nat → Int32) (n c : Nat) (r : Int32) : Prop := hasB r c = true ∧ (∀ i, i < n → hasB r i = true → ∀ j, j < 32 → hasB (L i) j = true → hasB r j = true) ∧ ∀ S : Nat → Prop, S c → (∀ i, i < n → S i → ∀ j, j < 32 → hasB (L i) j = true → S j) → ∀ j, j < 32 → hasB r j = true → S j
def zc (a : Int32) : Nat := ((List.range 32).filter (fun j => !hasB a j)).length
def orM (g : Int32) (s : Nat → Int32) : Nat → Int32
  | 0 => nI 0
  | i + 1 => orM g s i ||| (if hasB g i = true then s i else nI 0)
def cntM (q : Nat → Bool) : Nat → Int32
  | 0 => nI 0
  | i + 1 => cntM q i + (if q i = true then nI 1 else nI 0)
def prefM (b : Nat → Int32) (g : Int32) (c : Nat) : Nat → Nat := prefF b g c
def mtkS (y : Nat → Nat → Int32) (n : Nat) (g : Int32) (k v : Nat) : Nat → Nat → Nat → Int32
  | 0 => y
  | i + 1 => if (hasB g i && hasB (mtkS y n g k v i 3 (6 * i + k)) v) = true then mputS (mtkS y n g k v i) n i 0 k (mtkS y n g k v i 3 (6 * i + k) &&& (bit v ^^^ (-1))) else mtkS y n g k v i
def mtkC (y : Nat → Nat → Int32) (n : Nat) (g : Int32) (k v : Nat) : Nat → Int32
  | 0 => nI 0
  | i + 1 => if (hasB g i && hasB (mtkS y n g k v i 3 (6 * i + k)) v) = true then mtkC y n g k v i ||| bit i else mtkC y n g k v i
def mlnk (y : Nat → Nat → Int32) (c d : Nat) : Nat → Nat → Int32 := up2 (up2 y 4 c (y 4 c ||| bit d)) 4 d ((up2 y 4 c (y 4 c ||| bit d)) 4 d ||| bit c)
def mcut (y : Nat → Nat → Int32) (c d : Nat) : Nat → Nat → Int32 := up2 (up2 y 4 c (y 4 c &&& (bit d ^^^ (-1)))) 4 d ((up2 y 4 c (y 4 c &&& (bit d ^^^ (-1)))) 4 d &&& (bit c ^^^ (-1)))
def alk (y : Nat → Nat → Int32) (c d : Nat) : Int32 := (nI 3 * cntV (y 3 (6 * c) &&& y 3 (6 * d)) 30 + nI 2 * cntV (y 3 (6 * c + 1) &&& y 3 (6 * d + 1)) 30) + (if y 2 (3 * c) = y 2 (3 * d) then nI 2 else nI 0)
def msc (y : Nat → Nat → Int32) (g : Nat → Int32) (c d : Nat) : Int32 := if hasB (g c) d = true then nI 0 else alk y c d
def msug (y : Nat → Nat → Int32) (g : Nat → Int32) (c d : Nat) : Bool := !hasB (y 5 c) d && !hasB (y 6 c) d && decide (¬ msc y g c d ≤ 0)
def fndB (y : Nat → Nat → Int32) (g : Nat → Int32) (c d : Nat) : Bool := !hasB (g c) d && !hasB (y 5 c) d && !hasB (y 6 c) d
def fV (y : Nat → Nat → Int32) (g : Nat → Int32) (c d : Nat) : Int32 := if fndB y g c d = true then alk y c d else nI 0
def finS (y : Nat → Nat → Int32) (g : Nat → Int32) (c : Nat) : Nat → Nat → Nat → Int32
  | 0 => y
  | k + 1 => up2 (finS y g c k) 7 (25 * c + k + 1) (fV (finS y g c k) g c (k + c + 1))
def finC (y : Nat → Nat → Int32) (g : Nat → Int32) (c : Nat) (r : Int32) : Nat → Int32
  | 0 => r
  | k + 1 => finC y g c r k + (if fV (finS y g c k) g c (k + c + 1) ≤ 0 then nI 0 else nI 1)
def fouS (y : Nat → Nat → Int32) (g : Nat → Int32) (n : Nat) : Nat → Nat → Nat → Int32
  | 0 => y
  | i + 1 => finS (fouS y g n i) g i (n - (i + 1))
def fouC (y : Nat → Nat → Int32) (g : Nat → Int32) (n : Nat) : Nat → Int32
  | 0 => nI 0
  | i + 1 => finC (fouS y g n i) g i (fouC y g n i) (n - (i + 1))
theorem fouS_s {y : Nat → Nat → Int32} {g : Nat → Int32} {n i w : Nat} (h : n = i + 1 + w) : fouS y g n (i + 1) = finS (fouS y g n i) g i w := by rw [fouS, show n - (i + 1) = w by omega]
theorem fouC_s {y : Nat → Nat → Int32} {g : Nat → Int32} {n i w : Nat} (h : n = i + 1 + w) : fouC y g n (i + 1) = finC (fouS y g n i) g i (fouC y g n i) w := by rw [fouC, show n - (i + 1) = w by omega]
theorem finS_4 {y : Nat → Nat → Int32} {g : Nat → Int32} {c a : Nat} (ha : a ≠ 7) : ∀ k, finS y g c k a = y a
  | 0 => rfl
  | k + 1 => by
    funext b
    rw [finS, up2_k ha, finS_4 ha k]
theorem fouS_4 {y : Nat → Nat → Int32} {g : Nat → Int32} {n a : Nat} (ha : a ≠ 7) : ∀ i, fouS y g n i a = y a
  | 0 => rfl
  | i + 1 => by rw [fouS, finS_4 ha, fouS_4 ha i]
def mfS (y : Nat → Nat → Int32) (g : Nat → Int32) (n : Nat) : Nat → Nat → Int32 := fouS y g n n
def mfC (y : Nat → Nat → Int32) (g : Nat → Int32) (n : Nat) : Int32 := fouC y g n n
def tdG (y : Nat → Nat → Int32) (c d : Nat) (s1 s2 t1 t2 : Int32) : Nat → Nat → Int32 := up2 (up2 (up2 (up2 y 5 c (y 5 c ||| s1)) 5 d ((up2 y 5 c (y 5 c ||| s1)) 5 d ||| s2)) 6 c ((up2 (up2 y 5 c (y 5 c ||| s1)) 5 d ((up2 y 5 c (y 5 c ||| s1)) 5 d ||| s2)) 6 c ||| t1)) 6 d ((up2 (up2 (up2 y 5 c (y 5 c ||| s1)) 5 d ((up2 y 5 c (y 5 c ||| s1)) 5 d ||| s2)) 6 c ((up2 (up2 y 5 c (y 5 c ||| s1)) 5 d ((up2 y 5 c (y 5 c ||| s1)) 5 d ||| s2)) 6 c ||| t1)) 6 d ||| t2)
theorem tdG_4 {y : Nat → Nat → Int32} {c d : Nat} {s1 s2 t1 t2 : Int32} : tdG y c d s1 s2 t1 t2 4 = y 4 := by
  funext b
  unfold tdG
  rw [up2_k (by decide), up2_k (by decide), up2_k (by decide), up2_k (by decide)]
/-- pairAt's choice: 0 for none, else the place and 1 -/
def fI : Nat → Int32
  | 0 => -1
  | j + 1 => nI j
theorem fI_ne {e : Nat} (h : ¬ fI e = -1) : fI e = nI (e - 1) := by
  cases e with
  | zero => exact absurd rfl h
  | succ e => rfl
theorem fI_nz {e : Nat} (h : e ≠ 0) : fI e = nI (e - 1) := by
  cases e with
  | zero => exact absurd rfl h
  | succ e => rfl
theorem fI_0 {e : Nat} (he : e ≤ 576) (h : fI e = -1) : e = 0 := by
  cases e with
  | zero => rfl
  | succ e =>
    exfalso
    have h2 : nI e < 0 := by rw [show nI e = -1 from h]; decide
    exact nI_pos (by omega) h2
def selT (y : Nat → Nat → Int32) (e a : Nat) : Nat := if ¬ y 7 a ≤ 0 ∧ (e = 0 ∨ ¬ y 7 a ≤ y 7 (e - 1)) then a + 1 else e
def selI (y : Nat → Nat → Int32) (c e : Nat) : Nat → Nat
  | 0 => e
  | k + 1 => selT y (selI y c e k) (25 * c + k + 1)
def selO (y : Nat → Nat → Int32) (n : Nat) : Nat → Nat
  | 0 => 0
  | i + 1 => selI y i (selO y n i) (n - (i + 1))
theorem selO_s {y : Nat → Nat → Int32} {n i w : Nat} (h : n = i + 1 + w) : selO y n (i + 1) = selI y i (selO y n i) w := by rw [selO, show n - (i + 1) = w by omega]
theorem selI_le {y : Nat → Nat → Int32} {c e : Nat} (he : e ≤ 576) : ∀ k, k + c + 1 ≤ 24 → selI y c e k ≤ 576
  | 0, _ => he
  | k + 1, h => by
    unfold selI selT
    split
    · omega
    · exact selI_le he k (by omega)
theorem selO_le {y : Nat → Nat → Int32} {n : Nat} (hn : n ≤ 24) : ∀ i, i ≤ n → selO y n i ≤ 576
  | 0, _ => Nat.zero_le _
  | i + 1, h => selI_le (selO_le hn i (by omega)) _ (by omega)
theorem selI_a {y : Nat → Nat → Int32} {c e k : Nat} (h : y 7 (25 * c + k + 1) ≤ 0) : selI y c e (k + 1) = selI y c e k := by rw [selI, selT, if_neg (fun q => q.1 h)]
theorem selI_b {y : Nat → Nat → Int32} {c e k : Nat} (h : ¬ y 7 (25 * c + k + 1) ≤ 0) (h2 : selI y c e k = 0) : selI y c e (k + 1) = 25 * c + k + 1 + 1 := by rw [selI, selT, if_pos ⟨h, Or.inl h2⟩]
theorem selI_c {y : Nat → Nat → Int32} {c e k : Nat} (h : ¬ y 7 (25 * c + k + 1) ≤ 0) (h2 : ¬ y 7 (25 * c + k + 1) ≤ y 7 (selI y c e k - 1)) : selI y c e (k + 1) = 25 * c + k + 1 + 1 := by rw [selI, selT, if_pos ⟨h, Or.inr h2⟩]
theorem selI_d {y : Nat → Nat → Int32} {c e k : Nat} (h0 : selI y c e k ≠ 0) (h2 : y 7 (25 * c + k + 1) ≤ y 7 (selI y c e k - 1)) : selI y c e (k + 1) = selI y c e k := by rw [selI, selT, if_neg (fun q => q.2.elim h0 (fun z => z h2))]
def selS (y : Nat → Nat → Int32) (n q : Nat) : Nat → Nat → Nat → Int32
  | 0 => y
  | k + 1 => up2 (selS y n q k) 7 (selO (selS y n q k) n n - 1) (if k < q then nI 0 else selS y n q k 7 (selO (selS y n q k) n n - 1))
def selF (y : Nat → Nat → Int32) (n q : Nat) : Nat → Int32
  | 0 => nI 0
  | k + 1 => fI (selO (selS y n q k) n n)

theorem pas_mono {L : Nat → Int32} {a : Int32} {j : Nat} (hj : j < 32) (h : hasB a j = true) : ∀ i, hasB (pasF L a i) j = true
  | 0 => h
  | i + 1 => by rw [pasF, hb_or hj, pas_mono hj h i, Bool.true_or]
theorem pas_up {L : Nat → Int32} {a : Int32} {j i : Nat} (hj : j < 32) (h : hasB (pasF L a i) j = true) : ∀ k, hasB (pasF L a (i + k)) j = true
  | 0 => h
  | k + 1 => by rw [show i + (k + 1) = (i + k) + 1 by omega, pasF, hb_or hj, pas_up hj h k, Bool.true_or]
theorem pas_sub {L : Nat → Int32} {a r : Int32} {n : Nat} (hn : n ≤ 32) (hr : ∀ i, i < n → hasB r i = true → ∀ j, j < 32 → hasB (L i) j = true → hasB r j = true) (h : ∀ j, j < 32 → hasB a j = true → hasB r j = true) : ∀ i, i ≤ n → ∀ j, j < 32 → hasB (pasF L a i) j = true → hasB r j = true
  | 0, _, j, hj, q => h j hj q
  | i + 1, hi, j, hj, q => by
    rw [pasF, hb_or hj, Bool.or_eq_true] at q
    rcases q with q | q
    · exact pas_sub hn hr h i (by omega) j hj q
    · by_cases hb : hasB (pasF L a i) i = true
      · rw [if_pos hb] at q
        exact hr i (by omega) (pas_sub hn hr h i (by omega) i (by omega) hb) j hj q
      · rw [if_neg hb, hb_0 hj] at q
        cases q
theorem pas_closed {L : Nat → Int32} {a : Int32} {n : Nat} (hn : n ≤ 32) (h : pasF L a n = a) : ∀ i, i < n → hasB a i = true → ∀ j, j < 32 → hasB (L i) j = true → hasB a j = true := by
  intro i hi ha j hj hL
  have h1 : hasB (pasF L a (i + 1)) j = true := by
    rw [pasF, hb_or hj, if_pos (pas_mono (by omega) ha i), hL, Bool.or_true]
  have h2 := pas_up hj h1 (n - (i + 1))
  rw [show i + 1 + (n - (i + 1)) = n by omega, h] at h2
  exact h2
theorem zc_lt {a b : Int32} (h : ∀ j, j < 32 → hasB a j = true → hasB b j = true) (hne : b ≠ a) : zc b < zc a := by
  have key : ∀ (l : List Nat), (∀ j ∈ l, j < 32) → (l.filter (fun j => !hasB b j)).length ≤ (l.filter (fun j => !hasB a j)).length ∧ ((∃ j ∈ l, hasB a j = false ∧ hasB b j = true) → (l.filter (fun j => !hasB b j)).length < (l.filter (fun j => !hasB a j)).length) := by
    intro l
    induction l with
    | nil => intro _; exact ⟨Nat.le_refl _, fun ⟨j, hj, _⟩ => by cases hj⟩
    | cons k l ih =>
      intro hl
      obtain ⟨i1, i2⟩ := ih (fun j hj => hl j (List.mem_cons_of_mem _ hj))
      have hk := hl k List.mem_cons_self
      cases ha : hasB a k <;> cases hb : hasB b k
      · simp only [List.filter_cons, ha, hb, Bool.not_false, if_true, List.length_cons]
        refine ⟨by omega, fun ⟨j, hj, q1, q2⟩ => ?_⟩
        rcases List.mem_cons.mp hj with rfl | hj
        · rw [hb] at q2; cases q2
        · have := i2 ⟨j, hj, q1, q2⟩
          omega
      · simp only [List.filter_cons, ha, hb, Bool.not_false, Bool.not_true, if_true, List.length_cons]
        refine ⟨by simp; omega, fun _ => by simp; omega⟩
      · rw [h k hk ha] at hb; cases hb
      · simp only [List.filter_cons, ha, hb, Bool.not_true]
        refine ⟨by simpa using i1, fun ⟨j, hj, q1, q2⟩ => ?_⟩
        rcases List.mem_cons.mp hj with rfl | hj
        · rw [ha] at q1; cases q1
        · simpa using i2 ⟨j, hj, q1, q2⟩
  refine (key (List.range 32) (fun j hj => List.mem_range.mp hj)).2 ?_
  apply Classical.byContradiction
  intro hno
  refine hne (hb_ext fun v hv => ?_)
  cases ha : hasB a v with
  | true => exact h v hv ha
  | false =>
    cases hb : hasB b v with
    | false => rfl
    | true => exact absurd ⟨v, List.mem_range.mpr hv, ha, hb⟩ hno
theorem zc_le (a : Int32) : zc a ≤ 32 := by
  unfold zc
  exact Nat.le_trans (List.length_filter_le _ _) (by rw [List.length_range]; exact Nat.le_refl _)
/-- the reference's way to a group, at its loop's head -/
def gq (L : Nat → Int32) (n c : Nat) (r a b : Int32) (f : Nat) : Prop := isGrp L n c r ∧ hasB a c = true ∧ (∀ j, j < 32 → hasB a j = true → hasB r j = true) ∧ (a = b → ∀ i, i < n → hasB a i = true → ∀ j, j < 32 → hasB (L i) j = true → hasB a j = true) ∧ (a = b ∨ zc a < f)
theorem gq_end {L : Nat → Int32} {n c : Nat} {r a b : Int32} {f : Nat} (hn : n ≤ 32) (h : gq L n c r a b f) (e : a = b) : a = r := by
  obtain ⟨⟨-, -, h3⟩, g1, g2, g3, -⟩ := h
  refine hb_ext fun v hv => ?_
  cases ha : hasB a v with
  | true => exact (g2 v hv ha).symm
  | false =>
    cases hr : hasB r v with
    | false => rfl
    | true =>
      have := h3 (fun j => hasB a j = true) g1 (fun i hi q j hj w => g3 e i hi q j hj w) v hv hr
      rw [ha] at this
      cases this
theorem gq_0 {L : Nat → Int32} {n c : Nat} {r a b : Int32} (h : gq L n c r a b 0) : a = b := h.2.2.2.2.elim id (fun q => absurd q (Nat.not_lt_zero _))
theorem gq_go {L : Nat → Int32} {n c : Nat} {r a b : Int32} {f : Nat} (hn : n ≤ 32) (hc : c < 32) (h : gq L n c r a b (f + 1)) (e : ¬ a = b) : gq L n c r (pasF L a n) a f := by
  obtain ⟨hr, g1, g2, g3, g4⟩ := h
  have hz := g4.resolve_left e
  refine ⟨hr, pas_mono hc g1 n, pas_sub hn hr.2.1 g2 n (Nat.le_refl _), fun q => by rw [q]; exact pas_closed hn q, ?_⟩
  by_cases q : pasF L a n = a
  · exact Or.inl q
  · right
    have := zc_lt (fun j hj w => pas_mono (L := L) hj w n) q
    omega
theorem gq_start {L : Nat → Int32} {n c : Nat} {r : Int32} (hc : c < 32) (h : isGrp L n c r) : gq L n c r (bit c) (nI 0) 33 := by
  have h1 : hasB (bit c) c = true := by rw [hb_bit hc hc]; simp
  refine ⟨h, h1, fun j hj q => ?_, fun e => ?_, Or.inr (Nat.lt_succ_of_le (zc_le _))⟩
  · rw [hb_bit hc hj] at q
    have := of_decide_eq_true q
    subst this
    exact h.1
  · rw [e, hb_0 hc] at h1
    cases h1

section CMD
variable {p : Program} {l : Launch} {e : Env} {R : Room} {s : State} {m : MethodId} {args : Array Value} {below : List Frame} {meth : Method} {c : Code} {H : Heap} {locs : List Loc} {cells slots : Nat} {Q : State → Prop} {cc : ByteArray} {pc : Nat} {ls : Array Slot} {rest : List Value}
theorem r_divN (hx : p.tables.exec = Jvm.exec) (hb : c.code = cc) {a b : Nat} (hdg : decode cc pc = .ok (.idiv, 1)) (ha : a < 2 ^ 31) (h0 : 0 < b) (hb2 : b < 2 ^ 31) (kk : W p l e R s m args below meth c H locs cells slots Q (F0 m (pc + 1) ls (.int (nI (a / b)) :: rest))) : W p l e R s m args below meth c H locs cells slots Q (F0 m pc ls (.int (nI b) :: .int (nI a) :: rest)) := lv_idiv hx hb hdg (nI_ne0 h0 hb2) (by rw [pk_div ha h0 hb2]; exact kk)
theorem r_remN (hx : p.tables.exec = Jvm.exec) (hb : c.code = cc) {a b : Nat} (hdg : decode cc pc = .ok (.irem, 1)) (ha : a < 2 ^ 31) (h0 : 0 < b) (hb2 : b < 2 ^ 31) (kk : W p l e R s m args below meth c H locs cells slots Q (F0 m (pc + 1) ls (.int (nI (a % b)) :: rest))) : W p l e R s m args below meth c H locs cells slots Q (F0 m pc ls (.int (nI b) :: .int (nI a) :: rest)) := lv_irem hx hb hdg (nI_ne0 h0 hb2) (by rw [pk_rem ha h0 hb2]; exact kk)
end CMD
theorem ahT {b : Nat → Int32} {i j : Nat} (h : b i < b j ∨ (b i = b j ∧ i < j)) : isAh b i j = true := decide_eq_true h
theorem ahF {b : Nat → Int32} {i j : Nat} (h : ¬ b i < b j) (h2 : ¬ b i = b j ∨ ¬ i < j) : isAh b i j = false := decide_eq_false (fun q => q.elim h (fun z => h2.elim (fun w => w z.1) (fun w => w z.2)))
theorem prefF_s1 {b : Nat → Int32} {g : Int32} {c i : Nat} (h : hasB g i = true) (h2 : isAh b i (prefF b g c i) = true) : prefF b g c (i + 1) = i := by rw [prefF, h, h2]; rfl
theorem prefF_s2 {b : Nat → Int32} {g : Int32} {c i : Nat} (h : hasB g i = false) : prefF b g c (i + 1) = prefF b g c i := by rw [prefF, h]; rfl
theorem prefF_s3 {b : Nat → Int32} {g : Int32} {c i : Nat} (h2 : isAh b i (prefF b g c i) = false) : prefF b g c (i + 1) = prefF b g c i := by rw [prefF, h2, Bool.and_false]; rfl
theorem nI00 : nI 0 ≤ (0 : Int32) := by decide
theorem fI_z {e : Nat} (h : ¬ fI e = -1) : e ≠ 0 := fun q => h (by rw [q]; rfl)
