/-! the stream, as a pure function -/
def p14 (n : Nat) : Nat → Nat
  | 0 => 0
  | i + 1 => p14 n i + n / 2 ^ (56 - 8 * i) % 2 ^ 8 * 2 ^ (8 * i)
def p15 (n : Nat) : Nat → Nat
  | 0 => 0
  | i + 1 => p15 n i + n / 2 ^ (24 - 8 * i) % 2 ^ 8 * 2 ^ (8 * i)
theorem p14_lt (n : Nat) : ∀ i, p14 n i < 2 ^ (8 * i)
  | 0 => Nat.zero_lt_one
  | i + 1 => by
    have h := p14_lt n i
    have h2 : n / 2 ^ (56 - 8 * i) % 2 ^ 8 ≤ 255 := Nat.le_of_lt_succ (Nat.mod_lt _ (by decide))
    have h3 : n / 2 ^ (56 - 8 * i) % 2 ^ 8 * 2 ^ (8 * i) ≤ 255 * 2 ^ (8 * i) := Nat.mul_le_mul_right _ h2
    have h4 : 2 ^ (8 * (i + 1)) = 256 * 2 ^ (8 * i) := by rw [Nat.mul_add, Nat.pow_add, Nat.mul_comm]
    simp only [p14]
    omega
theorem p15_lt (n : Nat) : ∀ i, p15 n i < 2 ^ (8 * i)
  | 0 => Nat.zero_lt_one
  | i + 1 => by
    have h := p15_lt n i
    have h2 : n / 2 ^ (24 - 8 * i) % 2 ^ 8 ≤ 255 := Nat.le_of_lt_succ (Nat.mod_lt _ (by decide))
    have h3 : n / 2 ^ (24 - 8 * i) % 2 ^ 8 * 2 ^ (8 * i) ≤ 255 * 2 ^ (8 * i) := Nat.mul_le_mul_right _ h2
    have h4 : 2 ^ (8 * (i + 1)) = 256 * 2 ^ (8 * i) := by rw [Nat.mul_add, Nat.pow_add, Nat.mul_comm]
    simp only [p15]
    omega
theorem p14_s {n i : Nat} (hi : i < 4) : nI (p14 n i) ||| nI (n / 2 ^ (56 - 8 * i) % 2 ^ 8 * 2 ^ (8 * i)) = nI (p14 n (i + 1)) := by
  rw [Int32.or_comm, nI_or (p14_lt n i) (by omega), Nat.add_comm]
  rfl
theorem p15_s {n i : Nat} (hi : i < 4) : nI (p15 n i) ||| nI (n / 2 ^ (24 - 8 * i) % 2 ^ 8 * 2 ^ (8 * i)) = nI (p15 n (i + 1)) := by
  rw [Int32.or_comm, nI_or (p15_lt n i) (by omega), Nat.add_comm]
  rfl
def le4 (k : Nat → Nat) (a : Nat) : Nat := k a + k (a + 1) * 2 ^ 8 + k (a + 2) * 2 ^ 16 + k (a + 3) * 2 ^ 24
theorem w4orL {a b c d : Nat} (ha : a < 256) (hb : b < 256) (hc : c < 256) : nI a ||| nI (b * 2 ^ 8) ||| nI (c * 2 ^ 16) ||| nI (d * 2 ^ 24) = nI (a + b * 2 ^ 8 + c * 2 ^ 16 + d * 2 ^ 24) := by
  rw [Int32.or_comm (nI a), nI_or (k := 8) (by omega) (by decide), Int32.or_comm _ (nI (c * 2 ^ 16)), nI_or (k := 16) (by omega) (by decide), Int32.or_comm _ (nI (d * 2 ^ 24)), nI_or (k := 24) (by omega) (by decide)]
  congr 1
  omega
def cst4 : Nat → Nat
  | 0 => 1634760805
  | 1 => 857760878
  | 2 => 2036477234
  | _ => 1797285236
def fF (k : Nat → Nat) (n c j : Nat) : Int32 := if j < 4 then nI (cst4 j) else if j < 12 then nI (le4 k (4 * (j - 4))) else if j = 12 then nI c else if j = 13 then nI 0 else if j = 14 then nI (p14 n 4) else nI (p15 n 4)
def lrot (x : Int32) (k l : Nat) : Int32 := x <<< (nI k &&& 31) ||| (x.toUInt32 >>> ((nI l).toUInt32 &&& Int32.toUInt32 31)).toInt32
abbrev W4 : Type := Int32 × Int32 × Int32 × Int32
def q1 (s : W4) (k l : Nat) : W4 := (s.1 + s.2.1, s.2.1, s.2.2.1, lrot (s.2.2.2 ^^^ (s.1 + s.2.1)) k l)
def q2 (s : W4) (k l : Nat) : W4 := (s.1, lrot (s.2.1 ^^^ (s.2.2.1 + s.2.2.2)) k l, s.2.2.1 + s.2.2.2, s.2.2.2)
def qr4 (s : W4) : W4 := q2 (q1 (q2 (q1 s 16 16) 12 20) 8 24) 7 25
def qtr (w : Nat → Int32) (A B C D : Nat) : Nat → Int32 := upd (upd (upd (upd w A (qr4 (w A, w B, w C, w D)).1) B (qr4 (w A, w B, w C, w D)).2.1) C (qr4 (w A, w B, w C, w D)).2.2.1) D (qr4 (w A, w B, w C, w D)).2.2.2
theorem qtr_congr {w w' : Nat → Int32} {A B C D : Nat} (hA : A < 16) (hB : B < 16) (hC : C < 16) (hD : D < 16) (h : ∀ j, j < 16 → w j = w' j) : ∀ j, j < 16 → qtr w A B C D j = qtr w' A B C D j := by
  intro j hj
  unfold qtr
  rw [h A hA, h B hB, h C hC, h D hD]
  simp only [upd]
  rw [h j hj]
def qrs (qt : Nat → Nat) (w : Nat → Int32) : Nat → Nat → Int32
  | 0 => w
  | n + 1 => qtr (qrs qt w n) (qt (4 * n)) (qt (4 * n + 1)) (qt (4 * n + 2)) (qt (4 * n + 3))
def dbl (qt : Nat → Nat) (w : Nat → Int32) : Nat → Nat → Int32
  | 0 => w
  | n + 1 => qrs qt (dbl qt w n) 8
def sbyte (w f : Nat → Int32) (i : Nat) : Nat := (w (i / 4) + f (i / 4)).toBitVec.toNat / 2 ^ (8 * (i % 4)) % 2 ^ 8
def STRM (qt k : Nat → Nat) (n c i : Nat) : Nat := sbyte (dbl qt (fF k n c) 10) (fF k n c) i
theorem STRM_lt (qt k : Nat → Nat) (n c i : Nat) : STRM qt k n c i < 256 := Nat.mod_lt _ (by decide)
theorem fF_congr {k k' : Nat → Nat} {n c : Nat} (h : ∀ j, j < 32 → k j = k' j) (j : Nat) : fF k n c j = fF k' n c j := by
  unfold fF
  by_cases h1 : j < 4
  · rw [if_pos h1, if_pos h1]
  · rw [if_neg h1, if_neg h1]
    by_cases h2 : j < 12
    · rw [if_pos h2, if_pos h2]
      unfold le4
      rw [h _ (by omega), h _ (by omega), h _ (by omega), h _ (by omega)]
    · rw [if_neg h2, if_neg h2]
theorem STRM_congr {qt k k' : Nat → Nat} {n c i : Nat} (h : ∀ j, j < 32 → k j = k' j) : STRM qt k n c i = STRM qt k' n c i := by
  unfold STRM
  rw [show fF k n c = fF k' n c from funext (fF_congr h)]
theorem fF_lo {k : Nat → Nat} {n c j : Nat} (h : j < 4) : fF k n c j = nI (cst4 j) := by unfold fF; rw [if_pos h]
theorem fF_k {k : Nat → Nat} {n c i : Nat} (h : i < 8) : fF k n c (4 + i) = nI (le4 k (4 * i)) := by unfold fF; rw [if_neg (by omega), if_pos (by omega), show 4 * (4 + i - 4) = 4 * i by omega]
theorem fF_12 {k : Nat → Nat} {n c : Nat} : fF k n c 12 = nI c := by unfold fF; rw [if_neg (by decide), if_neg (by decide), if_pos rfl]
theorem fF_13 {k : Nat → Nat} {n c : Nat} : fF k n c 13 = nI 0 := by unfold fF; rw [if_neg (by decide), if_neg (by decide), if_neg (by decide), if_pos rfl]
theorem fF_14 {k : Nat → Nat} {n c : Nat} : fF k n c 14 = nI (p14 n 4) := by unfold fF; rw [if_neg (by decide), if_neg (by decide), if_neg (by decide), if_neg (by decide), if_pos rfl]
theorem fF_15 {k : Nat → Nat} {n c : Nat} : fF k n c 15 = nI (p15 n 4) := by unfold fF; rw [if_neg (by decide), if_neg (by decide), if_neg (by decide), if_neg (by decide), if_neg (by decide)]
