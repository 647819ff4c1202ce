/-! THE SYSTEM'S WORDS, as functions -/
/-- Integer.bitCount, as it is written -/
def bcA (a : Int32) : Int32 := a - (ush a (nI 1) &&& (1431655765 : Int32))
def bcB (a : Int32) : Int32 := (a &&& (858993459 : Int32)) + (ush a (nI 2) &&& (858993459 : Int32))
def bcC (a : Int32) : Int32 := (a + ush a (nI 4)) &&& (252645135 : Int32)
def bc (a : Int32) : Int32 := (((bcC (bcB (bcA a))) + ush (bcC (bcB (bcA a))) (nI 8)) + ush ((bcC (bcB (bcA a))) + ush (bcC (bcB (bcA a))) (nI 8)) (nI 16)) &&& nI 63
def nameB (a : Int32) : Bool := decide (¬ a < 0) && decide (¬ nI 32 ≤ a)
def valueB (a : Int32) : Bool := decide (¬ a < 0) && decide (¬ nI 30 ≤ a)
def bookB (a : Int32) : Bool := decide (¬ a < 0) && decide (a < nI 3)
def kindB (a : Int32) : Bool := decide (a = 0) || decide (a = nI 1)
def chgB (a : Int32) : Bool := decide (a = 0) || decide (a = nI 1)
def verB (a : Int32) : Bool := chgB a || decide (a = nI 2)
/-- the merge of sets and of names -/
def mrg (m t b : Int32) : Int32 := (m &&& t) ||| ((m ^^^ t) &&& (b ^^^ (-1)))
def mrgN (m t b : Int32) : Int32 := if m = b then t else m
def clB (m t b : Int32) : Bool := decide (m ≠ t) && decide (m ≠ b) && decide (t ≠ b)
def byB (m t b : Bool) : Bool := (!b && (m || t)) || (b && (m && t))
def byV (m t b : Int32) : Nat → Int32
  | 0 => nI 0
  | i + 1 => if byB (hasB m i) (hasB t i) (hasB b i) = true then byV m t b i ||| bit i else byV m t b i
/-- a card of the group g is ahead of another, by the books b -/
def isAh (b : Nat → Int32) (c d : Nat) : Bool := decide (b c < b d ∨ (b c = b d ∧ c < d))
def prefF (b : Nat → Int32) (g : Int32) (c : Nat) : Nat → Nat
  | 0 => c
  | i + 1 => if (hasB g i && isAh b i (prefF b g c i)) = true then i else prefF b g c i
theorem prefF_lt {b : Nat → Int32} {g : Int32} {c N : Nat} (hc : c < N) : ∀ i, i ≤ N → prefF b g c i < N
  | 0, _ => hc
  | i + 1, h => by
    unfold prefF
    split
    · omega
    · exact prefF_lt hc i (by omega)
/-- what is in s of one of the group g -/
def orF (g : Int32) (s : Nat → Int32) : Nat → Int32
  | 0 => nI 0
  | i + 1 => if hasB g i = true then orF g s i ||| s i else orF g s i
/-- how many of the first ones have it -/
def cntF (q : Nat → Bool) : Nat → Int32
  | 0 => nI 0
  | i + 1 => if q i = true then cntF q i + nI 1 else cntF q i
/-! the class's words, on its numbers x -/
def cNm (x : Nat → Nat → Int32) (c : Nat) : Int32 := mrgN (x 13 c) (x 14 c) (x 15 c)
def cSt (x : Nat → Nat → Int32) (c k : Nat) : Int32 := mrg (x (k + 16) c) (x (k + 18) c) (x (k + 20) c)
def putN (x : Nat → Nat → Int32) (c v : Nat) (w : Int32) : Nat → Nat → Int32 := up2 (if v = 0 ∧ x (v + 13) c ≠ w then up2 x 7 c (x 7 c + nI 1) else x) (v + 13) c w
def putS (x : Nat → Nat → Int32) (c v k : Nat) (w : Int32) : Nat → Nat → Int32 := up2 (if v = 0 ∧ x (2 * v + k + 16) c ≠ w then up2 x 7 c (x 7 c + nI 1) else x) (2 * v + k + 16) c w
theorem putN_a {x : Nat → Nat → Int32} {c v : Nat} {w : Int32} (h : v = 0) (h2 : ¬ x (v + 13) c = w) : putN x c v w = up2 (up2 x 7 c (x 7 c + nI 1)) (v + 13) c w := by rw [putN, if_pos ⟨h, h2⟩]
theorem putN_b {x : Nat → Nat → Int32} {c v : Nat} {w : Int32} (h : v ≠ 0) : putN x c v w = up2 x (v + 13) c w := by rw [putN, if_neg (fun q => h q.1)]
theorem putN_c {x : Nat → Nat → Int32} {c v : Nat} {w : Int32} (h2 : x (v + 13) c = w) : putN x c v w = up2 x (v + 13) c w := by rw [putN, if_neg (fun q => q.2 h2)]
theorem putS_a {x : Nat → Nat → Int32} {c v k : Nat} {w : Int32} (h : v = 0) (h2 : ¬ x (2 * v + k + 16) c = w) : putS x c v k w = up2 (up2 x 7 c (x 7 c + nI 1)) (2 * v + k + 16) c w := by rw [putS, if_pos ⟨h, h2⟩]
theorem putS_b {x : Nat → Nat → Int32} {c v k : Nat} {w : Int32} (h : v ≠ 0) : putS x c v k w = up2 x (2 * v + k + 16) c w := by rw [putS, if_neg (fun q => h q.1)]
theorem putS_c {x : Nat → Nat → Int32} {c v k : Nat} {w : Int32} (h2 : x (2 * v + k + 16) c = w) : putS x c v k w = up2 x (2 * v + k + 16) c w := by rw [putS, if_neg (fun q => q.2 h2)]
def putV (x : Nat → Nat → Int32) (c v : Nat) (w a b : Int32) : Nat → Nat → Int32 := putS (putS (putN x c v w) c v 0 a) c v 1 b
def mergeV (x : Nat → Nat → Int32) (c : Nat) : Nat → Nat → Int32 := putV (putV (putV x c 0 (cNm x c) (cSt x c 0) (cSt x c 1)) c 1 (cNm x c) (cSt x c 0) (cSt x c 1)) c 2 (cNm x c) (cSt x c 0) (cSt x c 1)
def appE (x : Nat → Nat → Int32) (n : Nat) (b w : Int32) : Nat → Nat → Int32 := up2 (up2 (up2 (up2 x 4 n b) 13 n w) 14 n w) 15 n w
def synV (x : Nat → Nat → Int32) (c v : Nat) : Bool := decide (x (v + 13) c = cNm x c) && decide (x (2 * v + 16) c = cSt x c 0) && decide (x (2 * v + 17) c = cSt x c 1)
def synB (x : Nat → Nat → Int32) (c : Nat) : Bool := synV x c 0 && synV x c 1 && synV x c 2
def mcOf (x : Nat → Nat → Int32) (c d : Nat) : Int32 := x 7 c + x 7 d
def shr (x : Nat → Nat → Int32) (c d k : Nat) : Int32 := bc (x (k + 16) c &&& x (k + 16) d)
def lowB (g : Int32) (c : Nat) : Bool := decide (g &&& (bit c - nI 1) = 0)
def reaF (L : Nat → Int32) (c : Nat) : Nat → Int32
  | 0 => bit c
  | i + 1 => reaF L c i ||| orF (reaF L c i) L 24
def pgF (x : Nat → Nat → Int32) (g : Int32) : Nat → Nat → Nat → Int32
  | 0 => x
  | i + 1 => if hasB g i = true then up2 (pgF x g i) 9 i g else pgF x g i
def lnkX (x : Nat → Nat → Int32) (c d : Nat) : Nat → Nat → Int32 := up2 (up2 x 8 c (x 8 c ||| bit d)) 8 d ((up2 x 8 c (x 8 c ||| bit d)) 8 d ||| bit c)
def conX (x : Nat → Nat → Int32) (c d : Nat) : Nat → Nat → Int32 := pgF (lnkX x c d) (lnkX x c d 9 c ||| lnkX x c d 9 d) 24
def cutX (x : Nat → Nat → Int32) (c d : Nat) : Nat → Nat → Int32 := up2 (up2 x 8 c (x 8 c &&& (bit d ^^^ (-1)))) 8 d ((up2 x 8 c (x 8 c &&& (bit d ^^^ (-1)))) 8 d &&& (bit c ^^^ (-1)))
def disA (x : Nat → Nat → Int32) (c : Nat) : Nat → Nat → Int32 := pgF x (reaF (x 8) c 24) 24
def disX (x : Nat → Nat → Int32) (c d : Nat) : Nat → Nat → Int32 := disA (disA (cutX x c d) c) d
def rfgX (x : Nat → Nat → Int32) (c d : Nat) : Nat → Nat → Int32 := up2 (up2 x 10 c (x 10 c ||| bit d)) 10 d ((up2 x 10 c (x 10 c ||| bit d)) 10 d ||| bit c)
def rfnX (x : Nat → Nat → Int32) (c d : Nat) (w : Int32) : Nat → Nat → Int32 := up2 (up2 x (c + 22) d w) (d + 22) c w
def staB (x : Nat → Nat → Int32) (c d : Nat) (w : Int32) : Bool := hasB (x 10 c) d || decide (x (c + 22) d = w)
/-- takeOutOfMine: the state and the set of the changed -/
def tkS (x : Nat → Nat → Int32) (g : Int32) (k v : Nat) : Nat → Nat → Nat → Int32
  | 0 => x
  | i + 1 => if (hasB g i && hasB (tkS x g k v i (k + 16) i) v) = true then putS (tkS x g k v i) i 0 k (tkS x g k v i (k + 16) i &&& (bit v ^^^ (-1))) else tkS x g k v i
def tkC (x : Nat → Nat → Int32) (g : Int32) (k v : Nat) : Nat → Int32
  | 0 => nI 0
  | i + 1 => if (hasB g i && hasB (tkS x g k v i (k + 16) i) v) = true then tkC x g k v i ||| bit i else tkC x g k v i
def sc (x : Nat → Nat → Int32) (c d : Nat) : Int32 := if hasB (x 9 c) d = true then nI 0 else if x 13 c = x 13 d then (nI 3 * shr x c d 0 + nI 2 * shr x c d 1) + nI 2 else nI 3 * shr x c d 0 + nI 2 * shr x c d 1
def sg (x : Nat → Nat → Int32) (c d : Nat) : Int32 := if staB x c d (mcOf x c d) = true then nI 0 else sc x c d
def sgN (x : Nat → Nat → Int32) (c d : Nat) : Nat := (sg x c d).toNatClampNeg
theorem sgN_eq {x : Nat → Nat → Int32} {c d : Nat} (h : ¬ sg x c d ≤ 0) (h2 : ¬ nI 152 < sg x c d) : sg x c d = nI (sgN x c d) ∧ sgN x c d < 153 := by
  have h0 : ¬ sg x c d < 0 := fun q => h (Int32.le_of_lt q)
  obtain ⟨j, hj, e⟩ := nI_of h0
  have e2 : sgN x c d = j := by unfold sgN; rw [e]; exact nI_clamp hj
  rw [e2, e]
  refine ⟨rfl, ?_⟩
  rw [e] at h2
  have := mt (nI_ltI (by decide) hj).mpr h2
  omega
def stepS (x : Nat → Nat → Int32) (c d : Nat) : Nat → Nat → Int32 := if ¬ sg x c d ≤ 0 ∧ ¬ nI 152 < sg x c d then up2 x 12 (sgN x c d) (x 12 (sgN x c d) + nI 1) else x
def clr (x : Nat → Nat → Int32) : Nat → Nat → Nat → Int32
  | 0 => x
  | i + 1 => up2 (clr x i) 12 i (nI 0)
def inS (x : Nat → Nat → Int32) (c : Nat) : Nat → Nat → Nat → Int32
  | 0 => x
  | k + 1 => stepS (inS x c k) c (k + c + 1)
def inC (x : Nat → Nat → Int32) (c : Nat) (r : Int32) : Nat → Int32
  | 0 => r
  | k + 1 => if ¬ sg (inS x c k) c (k + c + 1) ≤ 0 ∧ ¬ nI 152 < sg (inS x c k) c (k + c + 1) then inC x c r k + nI 1 else inC x c r k
theorem inS_t {x : Nat → Nat → Int32} {c k : Nat} (h : ¬ sg (inS x c k) c (k + c + 1) ≤ 0 ∧ ¬ nI 152 < sg (inS x c k) c (k + c + 1)) : inS x c (k + 1) = up2 (inS x c k) 12 (sgN (inS x c k) c (k + c + 1)) ((inS x c k) 12 (sgN (inS x c k) c (k + c + 1)) + nI 1) := by rw [inS, stepS, if_pos h]
theorem inS_f {x : Nat → Nat → Int32} {c k : Nat} (h : nI 152 < sg (inS x c k) c (k + c + 1)) : inS x c (k + 1) = inS x c k := by rw [inS, stepS, if_neg (fun q => q.2 h)]
theorem inS_n {x : Nat → Nat → Int32} {c k : Nat} (h : sg (inS x c k) c (k + c + 1) ≤ 0) : inS x c (k + 1) = inS x c k := by rw [inS, stepS, if_neg (fun q => q.1 h)]
theorem inC_t {x : Nat → Nat → Int32} {c k : Nat} {r : Int32} (h : ¬ sg (inS x c k) c (k + c + 1) ≤ 0 ∧ ¬ nI 152 < sg (inS x c k) c (k + c + 1)) : inC x c r (k + 1) = inC x c r k + nI 1 := by rw [inC, if_pos h]
theorem inC_f {x : Nat → Nat → Int32} {c k : Nat} {r : Int32} (h : nI 152 < sg (inS x c k) c (k + c + 1)) : inC x c r (k + 1) = inC x c r k := by rw [inC, if_neg (fun q => q.2 h)]
theorem inC_n {x : Nat → Nat → Int32} {c k : Nat} {r : Int32} (h : sg (inS x c k) c (k + c + 1) ≤ 0) : inC x c r (k + 1) = inC x c r k := by rw [inC, if_neg (fun q => q.1 h)]
def outS (x : Nat → Nat → Int32) (n : Nat) : Nat → Nat → Nat → Int32
  | 0 => x
  | i + 1 => inS (outS x n i) i (n - (i + 1))
def outC (x : Nat → Nat → Int32) (n : Nat) : Nat → Int32
  | 0 => nI 0
  | i + 1 => inC (outS x n i) i (outC x n i) (n - (i + 1))
theorem outS_s {x : Nat → Nat → Int32} {n i w : Nat} (h : n = i + 1 + w) : outS x n (i + 1) = inS (outS x n i) i w := by rw [outS, show n - (i + 1) = w by omega]
theorem outC_s {x : Nat → Nat → Int32} {n i w : Nat} (h : n = i + 1 + w) : outC x n (i + 1) = inC (outS x n i) i (outC x n i) w := by rw [outC, show n - (i + 1) = w by omega]
def tlS (x : Nat → Nat → Int32) (n : Nat) : Nat → Nat → Int32 := outS (clr x 153) n n
def tlC (x : Nat → Nat → Int32) (n : Nat) : Int32 := outC (clr x 153) n n
/-- pairOfScore, from the place (i, i + 1 + k) on -/
def pIn (x : Nat → Nat → Int32) (s : Int32) (i : Nat) (K : Int32 → Int32) : Nat → Nat → Int32 → Int32
  | 0, _, r => K r
  | w + 1, k, r => if sg x i (k + i + 1) = s then (if r = 0 then nI (101 * i + k + 1) else pIn x s i K w (k + 1) (r + (-1))) else pIn x s i K w (k + 1) r
def pOut (x : Nat → Nat → Int32) (s : Int32) (n : Nat) : Nat → Nat → Int32 → Int32
  | 0, _, _ => -1
  | w + 1, i, r => pIn x s i (fun r => pOut x s n w (i + 1) r) (n - (i + 1)) 0 r
def pO (x : Nat → Nat → Int32) (s : Int32) (n i : Nat) (r : Int32) : Int32 := pOut x s n (n - i) i r
def pI (x : Nat → Nat → Int32) (s : Int32) (n i k : Nat) (r : Int32) : Int32 := pIn x s i (fun r => pO x s n (i + 1) r) (n - (i + 1) - k) k r
theorem pO_end {x : Nat → Nat → Int32} {s : Int32} {n : Nat} {r : Int32} : pO x s n n r = -1 := by rw [pO, Nat.sub_self, pOut]
theorem pO_in {x : Nat → Nat → Int32} {s : Int32} {n i : Nat} {r : Int32} (h : i < n) : pO x s n i r = pI x s n i 0 r := by
  rw [pO, show n - i = (n - (i + 1)) + 1 by omega, pOut, pI]
  rfl
theorem pI_end {x : Nat → Nat → Int32} {s : Int32} {n i w : Nat} {r : Int32} (h : n = i + 1 + w) : pI x s n i w r = pO x s n (i + 1) r := by rw [pI, show n - (i + 1) - w = 0 by omega, pIn]
theorem pI_hit {x : Nat → Nat → Int32} {s : Int32} {n i k w : Nat} {r : Int32} (h : n = i + 1 + w) (hk : k < w) (h1 : sg x i (k + i + 1) = s) (h2 : r = 0) : pI x s n i k r = nI (101 * i + k + 1) := by
  rw [pI, show n - (i + 1) - k = (n - (i + 1) - (k + 1)) + 1 by omega, pIn, if_pos h1, if_pos h2]
theorem pI_go {x : Nat → Nat → Int32} {s : Int32} {n i k w : Nat} {r : Int32} (h : n = i + 1 + w) (hk : k < w) (h1 : sg x i (k + i + 1) = s) (h2 : ¬ r = 0) : pI x s n i k r = pI x s n i (k + 1) (r + (-1)) := by
  rw [pI, show n - (i + 1) - k = (n - (i + 1) - (k + 1)) + 1 by omega, pIn, if_pos h1, if_neg h2, pI]
theorem pI_miss {x : Nat → Nat → Int32} {s : Int32} {n i k w : Nat} {r : Int32} (h : n = i + 1 + w) (hk : k < w) (h1 : ¬ sg x i (k + i + 1) = s) : pI x s n i k r = pI x s n i (k + 1) r := by
  rw [pI, show n - (i + 1) - k = (n - (i + 1) - (k + 1)) + 1 by omega, pIn, if_neg h1, pI]
def cardB (n : Nat) (a : Int32) : Bool := decide (¬ a < 0) && decide (a < nI n)
theorem bookB_1 {b : Int32} (h : bookB b = true) : ¬ b < 0 := by simp only [bookB, Bool.and_eq_true, decide_eq_true_eq] at h; exact h.1
theorem bookB_2 {b : Int32} (h : bookB b = true) : b < nI 3 := by simp only [bookB, Bool.and_eq_true, decide_eq_true_eq] at h; exact h.2
theorem bookB_3 {b : Int32} (h : bookB b = false) (h1 : ¬ b < 0) (h2 : b < nI 3) : False := by simp [bookB, h1, h2] at h
theorem cardB_3 {n : Nat} {a : Int32} (h : cardB n a = false) (h1 : ¬ a < 0) (h2 : a < nI n) : False := by simp [cardB, h1, h2] at h
theorem two_ok {v : Nat} (h : v < 2) : nI v = 0 ∨ nI v = nI 1 := by
  rcases (show v = 0 ∨ v = 1 by omega) with rfl | rfl
  · exact Or.inl rfl
  · exact Or.inr rfl
theorem kindB_ok {k : Nat} (h : k < 2) : kindB (nI k) = true := by
  rcases two_ok h with e | e <;> simp [kindB, e]
theorem chgB_ok {k : Nat} (h : k < 2) : chgB (nI k) = true := by
  rcases two_ok h with e | e <;> simp [chgB, e]
theorem verB_ok {k : Nat} (h : k < 3) : verB (nI k) = true := by
  rcases (show k < 2 ∨ k = 2 by omega) with h | rfl
  · simp [verB, chgB_ok h]
  · simp [verB]
theorem valueB_ok {k : Nat} (h : k < 30) : valueB (nI k) = true := by
  have h1 : ¬ nI k < 0 := nI_pos (by omega)
  have h2 : ¬ nI 30 ≤ nI k := nI_ge h (by decide)
  simp [valueB, h1, h2]
/-- sync -/
def syS (x : Nat → Nat → Int32) (b : Int32) : Nat → Nat → Nat → Int32
  | 0 => x
  | i + 1 => if syS x b i 4 i = b then mergeV (syS x b i) i else syS x b i
def syC (x : Nat → Nat → Int32) (b : Int32) : Nat → Int32
  | 0 => nI 0
  | i + 1 => if syS x b i 4 i = b ∧ clB (syS x b i 13 i) (syS x b i 14 i) (syS x b i 15 i) = true then syC x b i + nI 1 else syC x b i
def usC (x : Nat → Nat → Int32) (b : Int32) : Nat → Int32
  | 0 => nI 0
  | i + 1 => if x 4 i = b ∧ synB x i = false then usC x b i + nI 1 else usC x b i
/-- pairAt's way down -/
def pW (x : Nat → Nat → Int32) (n : Nat) : Nat → Int32 → Int32
  | 0, r => pO x (nI 0) n 0 r
  | s + 1, r => if r < x 12 (s + 1) then pO x (nI (s + 1)) n 0 r else pW x n s (r - x 12 (s + 1))
