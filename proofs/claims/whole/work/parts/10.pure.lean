/-! THE SYSTEM'S WORDS, as functions -/
/-- Integer.bitCount, as it is written -/
def bcA (a : Int32) : Int32 := a - (ush a (nI 1) &&& (1431655765 : Int32))
def bcB (a : Int32) : Int32 := (a &&& (858993459 : Int32)) + (ush a (nI 2) &&& (858993459 : Int32))
def bcC (a : Int32) : Int32 := (a + ush a (nI 4)) &&& (252645135 : Int32)
def bc (a : Int32) : Int32 := (((bcC (bcB (bcA a))) + ush (bcC (bcB (bcA a))) (nI 8)) + ush ((bcC (bcB (bcA a))) + ush (bcC (bcB (bcA a))) (nI 8)) (nI 16)) &&& nI 63
def nameB (a : Int32) : Bool := decide (¬ a < 0) && decide (¬ nI 32 ≤ a)
def valueB (a : Int32) : Bool := decide (¬ a < 0) && decide (¬ nI 30 ≤ a)
def bookB (a : Int32) : Bool := decide (¬ a < 0) && decide (¬ nI 3 ≤ a)
def kindB (a : Int32) : Bool := decide (a = 0) || decide (a = nI 1)
def chgB (a : Int32) : Bool := decide (a = 0) || decide (a = nI 1)
def verB (a : Int32) : Bool := chgB a || decide (a = nI 2)
/-- the merge of sets and of names -/
def mrg (m t b : Int32) : Int32 := (m &&& t) ||| ((m ^^^ t) &&& (b ^^^ (-1)))
def mrgN (m t b : Int32) : Int32 := if m = b then t else m
def clB (m t b : Int32) : Bool := decide (m ≠ t) && decide (m ≠ b) && decide (t ≠ b)
def byB (m t b : Bool) : Bool := (!b && (m || t)) || (b && (m && t))
def byV (m t b : Int32) : Nat → Int32
  | 0 => nI 0
  | i + 1 => if byB (hasB m i) (hasB t i) (hasB b i) = true then byV m t b i ||| bit i else byV m t b i
/-- a card of the group g is ahead of another, by the books b -/
def isAh (b : Nat → Int32) (c d : Nat) : Bool := decide (b c < b d ∨ (b c = b d ∧ c < d))
def prefF (b : Nat → Int32) (g : Int32) (c : Nat) : Nat → Nat
  | 0 => c
  | i + 1 => if (hasB g i && isAh b i (prefF b g c i)) = true then i else prefF b g c i
theorem prefF_lt {b : Nat → Int32} {g : Int32} {c N : Nat} (hc : c < N) : ∀ i, i ≤ N → prefF b g c i < N
  | 0, _ => hc
  | i + 1, h => by
    unfold prefF
    split
    · omega
    · exact prefF_lt hc i (by omega)
/-- what is in s of one of the group g -/
def orF (g : Int32) (s : Nat → Int32) : Nat → Int32
  | 0 => nI 0
  | i + 1 => if hasB g i = true then orF g s i ||| s i else orF g s i
/-- how many of the first ones have it -/
def cntF (q : Nat → Bool) : Nat → Int32
  | 0 => nI 0
  | i + 1 => if q i = true then cntF q i + nI 1 else cntF q i
/-! the class's words, on its numbers x -/
def cNm (x : Nat → Nat → Int32) (c : Nat) : Int32 := mrgN (x 13 c) (x 14 c) (x 15 c)
def cSt (x : Nat → Nat → Int32) (c k : Nat) : Int32 := mrg (x (k + 16) c) (x (k + 18) c) (x (k + 20) c)
def putN (x : Nat → Nat → Int32) (c v : Nat) (w : Int32) : Nat → Nat → Int32 := up2 (if v = 0 ∧ x (v + 13) c ≠ w then up2 x 7 c (x 7 c + nI 1) else x) (v + 13) c w
def putS (x : Nat → Nat → Int32) (c v k : Nat) (w : Int32) : Nat → Nat → Int32 := up2 (if v = 0 ∧ x (2 * v + k + 16) c ≠ w then up2 x 7 c (x 7 c + nI 1) else x) (2 * v + k + 16) c w
theorem putN_a {x : Nat → Nat → Int32} {c v : Nat} {w : Int32} (h : v = 0) (h2 : ¬ x (v + 13) c = w) : putN x c v w = up2 (up2 x 7 c (x 7 c + nI 1)) (v + 13) c w := by rw [putN, if_pos ⟨h, h2⟩]
theorem putN_b {x : Nat → Nat → Int32} {c v : Nat} {w : Int32} (h : v ≠ 0) : putN x c v w = up2 x (v + 13) c w := by rw [putN, if_neg (fun q => h q.1)]
theorem putN_c {x : Nat → Nat → Int32} {c v : Nat} {w : Int32} (h2 : x (v + 13) c = w) : putN x c v w = up2 x (v + 13) c w := by rw [putN, if_neg (fun q => q.2 h2)]
theorem putS_a {x : Nat → Nat → Int32} {c v k : Nat} {w : Int32} (h : v = 0) (h2 : ¬ x (2 * v + k + 16) c = w) : putS x c v k w = up2 (up2 x 7 c (x 7 c + nI 1)) (2 * v + k + 16) c w := by rw [putS, if_pos ⟨h, h2⟩]
theorem putS_b {x : Nat → Nat → Int32} {c v k : Nat} {w : Int32} (h : v ≠ 0) : putS x c v k w = up2 x (2 * v + k + 16) c w := by rw [putS, if_neg (fun q => h q.1)]
theorem putS_c {x : Nat → Nat → Int32} {c v k : Nat} {w : Int32} (h2 : x (2 * v + k + 16) c = w) : putS x c v k w = up2 x (2 * v + k + 16) c w := by rw [putS, if_neg (fun q => q.2 h2)]
def putV (x : Nat → Nat → Int32) (c v : Nat) (w a b : Int32) : Nat → Nat → Int32 := putS (putS (putN x c v w) c v 0 a) c v 1 b
def mergeV (x : Nat → Nat → Int32) (c : Nat) : Nat → Nat → Int32 := putV (putV (putV x c 0 (cNm x c) (cSt x c 0) (cSt x c 1)) c 1 (cNm x c) (cSt x c 0) (cSt x c 1)) c 2 (cNm x c) (cSt x c 0) (cSt x c 1)
def appE (x : Nat → Nat → Int32) (n : Nat) (b w : Int32) : Nat → Nat → Int32 := up2 (up2 (up2 (up2 x 4 n b) 13 n w) 14 n w) 15 n w
def synV (x : Nat → Nat → Int32) (c v : Nat) : Bool := decide (x (v + 13) c = cNm x c) && decide (x (2 * v + 16) c = cSt x c 0) && decide (x (2 * v + 17) c = cSt x c 1)
def synB (x : Nat → Nat → Int32) (c : Nat) : Bool := synV x c 0 && synV x c 1 && synV x c 2
def mcOf (x : Nat → Nat → Int32) (c d : Nat) : Int32 := x 7 c + x 7 d
def shr (x : Nat → Nat → Int32) (c d k : Nat) : Int32 := bc (x (k + 16) c &&& x (k + 16) d)
