/-! the hash, as a pure function -/
def shrW (x : Int32) (k : Nat) : Int32 := (x.toUInt32 >>> ((nI k).toUInt32 &&& Int32.toUInt32 31)).toInt32
def rotW (x : Int32) (k l : Nat) : Int32 := (x.toUInt32 >>> ((nI k).toUInt32 &&& Int32.toUInt32 31)).toInt32 ||| x <<< (nI l &&& 31)
def bW (b : Nat → Nat) (s t : Nat) : Int32 := nI (b (s + 4 * t) * 2 ^ 24 + b (s + 4 * t + 1) * 2 ^ 16 + b (s + 4 * t + 2) * 2 ^ 8 + b (s + 4 * t + 3))
def exs (w : Nat → Int32) (t : Nat) : Int32 := w (t - 16) + (rotW (w (t - 15)) 7 25 ^^^ rotW (w (t - 15)) 18 14 ^^^ shrW (w (t - 15)) 3) + w (t - 7) + (rotW (w (t - 2)) 17 15 ^^^ rotW (w (t - 2)) 19 13 ^^^ shrW (w (t - 2)) 10)
def exw (w : Nat → Int32) : Nat → Nat → Int32
  | 0 => w
  | n + 1 => upd (exw w n) (16 + n) (exs (exw w n) (16 + n))
abbrev W8 : Type := Int32 × Int32 × Int32 × Int32 × Int32 × Int32 × Int32 × Int32
def rn1 (r w : Nat → Int32) (t : Nat) (s : W8) : Int32 := s.2.2.2.2.2.2.2 + (rotW s.2.2.2.2.1 6 26 ^^^ rotW s.2.2.2.2.1 11 21 ^^^ rotW s.2.2.2.2.1 25 7) + (s.2.2.2.2.1 &&& s.2.2.2.2.2.1 ^^^ (s.2.2.2.2.1 ^^^ (-1)) &&& s.2.2.2.2.2.2.1) + r t + w t
def rn2 (s : W8) : Int32 := (rotW s.1 2 30 ^^^ rotW s.1 13 19 ^^^ rotW s.1 22 10) + (s.1 &&& s.2.1 ^^^ s.1 &&& s.2.2.1 ^^^ s.2.1 &&& s.2.2.1)
def rnd (r w : Nat → Int32) (t : Nat) (s : W8) : W8 := (rn1 r w t s + rn2 s, s.1, s.2.1, s.2.2.1, s.2.2.2.1 + rn1 r w t s, s.2.2.2.2.1, s.2.2.2.2.2.1, s.2.2.2.2.2.2.1)
def rns (r w : Nat → Int32) (s : W8) : Nat → W8
  | 0 => s
  | n + 1 => rnd r w n (rns r w s n)
def g8 (s : W8) : Nat → Int32
  | 0 => s.1
  | 1 => s.2.1
  | 2 => s.2.2.1
  | 3 => s.2.2.2.1
  | 4 => s.2.2.2.2.1
  | 5 => s.2.2.2.2.2.1
  | 6 => s.2.2.2.2.2.2.1
  | _ => s.2.2.2.2.2.2.2
def t8 (h : Nat → Int32) : W8 := (h 0, h 1, h 2, h 3, h 4, h 5, h 6, h 7)
def mixF (r w h : Nat → Int32) (k : Nat) : Int32 := h k + g8 (rns r w (t8 h) 64) k
/-- so many blocks mixed in -/
def hbl (f0 r : Nat → Int32) (b : Nat → Nat) : Nat → Nat → Int32
  | 0 => f0
  | n + 1 => mixF r (exw (bW b (64 * n)) 48) (hbl f0 r b n)
/-- the padded message -/
def pad (b : Nat → Nat) (n : Nat) (j : Nat) : Nat := if j < n then b j else if j = n then 128 else if j < (n + 72) / 64 * 64 - 8 then 0 else 8 * n / 256 ^ ((n + 72) / 64 * 64 - 1 - j) % 256
def wbyte (h : Nat → Int32) (i : Nat) : Nat := (h (i / 4)).toBitVec.toNat / 2 ^ (24 - 8 * (i % 4)) % 2 ^ 8
def hshF (f0 r : Nat → Int32) (b : Nat → Nat) (n i : Nat) : Nat := wbyte (hbl f0 r (pad b n) ((n + 72) / 64)) i
theorem bW_congr {b b' : Nat → Nat} {s : Nat} (h : ∀ j, j < 64 → b (s + j) = b' (s + j)) : ∀ t, t < 16 → bW b s t = bW b' s t := by
  intro t ht
  unfold bW
  rw [show s + 4 * t + 1 = s + (4 * t + 1) by omega, show s + 4 * t + 2 = s + (4 * t + 2) by omega, show s + 4 * t + 3 = s + (4 * t + 3) by omega, h (4 * t) (by omega), h (4 * t + 1) (by omega), h (4 * t + 2) (by omega), h (4 * t + 3) (by omega)]
theorem exs_congr {w w' : Nat → Int32} {n : Nat} (h : ∀ j, j < 16 + n → w j = w' j) : exs w (16 + n) = exs w' (16 + n) := by
  unfold exs
  rw [h (16 + n - 16) (by omega), h (16 + n - 15) (by omega), h (16 + n - 7) (by omega), h (16 + n - 2) (by omega)]
theorem exw_congr {w w' : Nat → Int32} (h : ∀ j, j < 16 → w j = w' j) : ∀ n j, j < 16 + n → exw w n j = exw w' n j
  | 0, j, hj => h j hj
  | n + 1, j, hj => by
    simp only [exw, upd]
    by_cases e : j = 16 + n
    · rw [if_pos e, if_pos e, exs_congr (exw_congr h n)]
    · rw [if_neg e, if_neg e, exw_congr h n j (by omega)]
theorem rns_congr {r r' w w' : Nat → Int32} {s : W8} : ∀ n, (∀ j, j < n → w j = w' j) → (∀ j, j < n → r j = r' j) → rns r w s n = rns r' w' s n
  | 0, _, _ => rfl
  | n + 1, h, h' => by
    simp only [rns]
    rw [rns_congr n (fun j hj => h j (by omega)) (fun j hj => h' j (by omega))]
    unfold rnd rn1
    rw [h n (by omega), h' n (by omega)]
theorem t8_congr {h h' : Nat → Int32} (q : ∀ j, j < 8 → h j = h' j) : t8 h = t8 h' := by
  unfold t8
  rw [q 0 (by omega), q 1 (by omega), q 2 (by omega), q 3 (by omega), q 4 (by omega), q 5 (by omega), q 6 (by omega), q 7 (by omega)]
theorem mixF_congr {r r' w w' h h' : Nat → Int32} (hw : ∀ j, j < 64 → w j = w' j) (hr : ∀ j, j < 64 → r j = r' j) (q : ∀ j, j < 8 → h j = h' j) : ∀ k, k < 8 → mixF r w h k = mixF r' w' h' k := by
  intro k hk
  unfold mixF
  rw [q k hk, t8_congr q, rns_congr 64 hw hr]
theorem hbl_congr {f0 f0' r r' : Nat → Int32} {b b' : Nat → Nat} (hr : ∀ j, j < 64 → r j = r' j) (q : ∀ j, j < 8 → f0 j = f0' j) : ∀ n, (∀ j, j < 64 * n → b j = b' j) → ∀ k, k < 8 → hbl f0 r b n k = hbl f0' r' b' n k
  | 0, _ => q
  | n + 1, h => by
    simp only [hbl]
    exact mixF_congr (exw_congr (bW_congr (fun j hj => h _ (by omega))) 48) hr (hbl_congr hr q n (fun j hj => h j (by omega)))
theorem wbyte_congr {h h' : Nat → Int32} (q : ∀ j, j < 8 → h j = h' j) {i : Nat} (hi : i < 32) : wbyte h i = wbyte h' i := by
  unfold wbyte
  rw [q (i / 4) (by omega)]
theorem pad_congr {b b' : Nat → Nat} {n : Nat} (h : ∀ j, j < n → b j = b' j) (j : Nat) : pad b n j = pad b' n j := by
  unfold pad
  by_cases e : j < n
  · rw [if_pos e, if_pos e, h j e]
  · rw [if_neg e, if_neg e]
theorem hshF_congr {f0 f0' r r' : Nat → Int32} {b b' : Nat → Nat} {n : Nat} (hr : ∀ j, j < 64 → r j = r' j) (q : ∀ j, j < 8 → f0 j = f0' j) (h : ∀ j, j < n → b j = b' j) {i : Nat} (hi : i < 32) : hshF f0 r b n i = hshF f0' r' b' n i :=
  wbyte_congr (hbl_congr hr q _ (fun j _ => pad_congr h j)) hi
/-- the hash of a list of bytes -/
def HSH (f0 r : Nat → Int32) (l : List Nat) (i : Nat) : Nat := hshF f0 r (fun j => l.getD j 0) l.length i
theorem HSH_lst {f0 r : Nat → Int32} {b : Nat → Nat} {n i : Nat} (hi : i < 32) : hshF f0 r b n i = HSH f0 r (lst b n) i := by
  unfold HSH
  rw [lst_len]
  exact hshF_congr (fun _ _ => rfl) (fun _ _ => rfl) (fun j hj => (lst_get hj).symm) hi
theorem wbyte_lt (h : Nat → Int32) (i : Nat) : wbyte h i < 256 := Nat.mod_lt _ (by decide)
theorem HSH_lt (f0 r : Nat → Int32) (l : List Nat) (i : Nat) : HSH f0 r l i < 256 := wbyte_lt _ i
theorem w4or {a b c d : Nat} (hb : b < 256) (hc : c < 256) (hd : d < 256) : nI (a * 2 ^ 24) ||| nI (b * 2 ^ 16) ||| nI (c * 2 ^ 8) ||| nI d = nI (a * 2 ^ 24 + b * 2 ^ 16 + c * 2 ^ 8 + d) := by
  rw [nI_or (k := 24) (by omega) (by decide), show a * 2 ^ 24 + b * 2 ^ 16 = (a * 2 ^ 8 + b) * 2 ^ 16 by omega, nI_or (k := 16) (by omega) (by decide), show (a * 2 ^ 8 + b) * 2 ^ 16 + c * 2 ^ 8 = ((a * 2 ^ 8 + b) * 2 ^ 8 + c) * 2 ^ 8 by omega, nI_or (k := 8) (by omega) (by decide)]
