/-! roots: digits of a power, as numbers -/
section MRoot0
def dg (V i : Nat) : Nat := V / (2 ^ 16) ^ i % 2 ^ 16
theorem dg_lt (V i : Nat) : dg V i < 2 ^ 16 := Nat.mod_lt _ (by decide)
theorem dg_0 {V i m : Nat} (h : V < (2 ^ 16) ^ m) (hi : m ≤ i) : dg V i = 0 := by
  unfold dg
  rw [Nat.div_eq_of_lt (Nat.lt_of_lt_of_le h (Nat.pow_le_pow_right (by decide) hi))]
theorem dg_s (V i : Nat) : V / (2 ^ 16) ^ (i + 1) * 65536 + dg V i = V / (2 ^ 16) ^ i := by
  unfold dg
  rw [Nat.pow_succ, ← Nat.div_div_eq_div_mul]
  have := Nat.div_add_mod (V / (2 ^ 16) ^ i) (2 ^ 16)
  omega
def m3 (b p : Nat → Nat) (i : Nat) : Nat → Nat
  | 0 => 0
  | k + 1 => m3 b p i k + (if k ≤ i then b k * p (i - k) else 0)
theorem m3_s {b p : Nat → Nat} {i k : Nat} (h : k ≤ i) : m3 b p i (k + 1) = m3 b p i k + b k * p (i - k) := by
  show m3 b p i k + (if k ≤ i then b k * p (i - k) else 0) = _
  rw [if_pos h]
theorem m3_x {b p : Nat → Nat} {i : Nat} : ∀ d, m3 b p i (i + 1 + d) = m3 b p i (i + 1)
  | 0 => rfl
  | d + 1 => by
    show m3 b p i (i + 1 + d) + (if i + 1 + d ≤ i then _ else 0) = _
    rw [if_neg (by omega), m3_x d, Nat.add_zero]
theorem m3_e {b p : Nat → Nat} {i k : Nat} (h : k = 3 ∨ (k = i + 1 ∧ k ≤ 3)) : m3 b p i k = m3 b p i 3 := by
  rcases h with h | ⟨h, h2⟩
  · rw [h]
  · obtain ⟨d, hd⟩ : ∃ d, 3 = i + 1 + d := ⟨3 - (i + 1), by omega⟩
    rw [hd, h, m3_x]
theorem m3_c {b p b' p' : Nat → Nat} {i : Nat} : ∀ k, k ≤ 3 → (∀ j, j < 3 → b j = b' j) → (∀ j, j ≤ i → p j = p' j) → m3 b p i k = m3 b' p' i k
  | 0, _, _, _ => rfl
  | k + 1, hk, hb, hp => by
    show m3 b p i k + (if k ≤ i then b k * p (i - k) else 0) = m3 b' p' i k + (if k ≤ i then b' k * p' (i - k) else 0)
    rw [m3_c k (by omega) hb hp]
    by_cases z : k ≤ i
    · rw [if_pos z, if_pos z, hb k (by omega), hp (i - k) (by omega)]
    · rw [if_neg z, if_neg z]
theorem m3_lt {b p : Nat → Nat} {i : Nat} (hb : ∀ j, j < 3 → b j < 2 ^ 16) (hp : ∀ j, p j < 2 ^ 16) : ∀ k, k ≤ 3 → m3 b p i k ≤ k * 2 ^ 32
  | 0, _ => Nat.le_refl _
  | k + 1, hk => by
    have := m3_lt hb hp (i := i) k (by omega)
    show m3 b p i k + (if k ≤ i then b k * p (i - k) else 0) ≤ _
    split
    · have h1 := Nat.mul_lt_mul'' (hb k (by omega)) (hp (i - k))
      have h2 : (2 : Nat) ^ 16 * 2 ^ 16 = 2 ^ 32 := by decide
      rw [h2] at h1
      omega
    · rw [Nat.succ_mul, Nat.add_zero]; exact Nat.le_trans this (Nat.le_add_right _ _)
theorem m3_cv {b p : Nat → Nat} (h10 : ∀ j, 10 ≤ j → p j = 0) {i : Nat} : ∀ k, m3 b p i k = cv b p 10 k i
  | 0 => rfl
  | k + 1 => by
    show m3 b p i k + (if k ≤ i then b k * p (i - k) else 0) = cv b p 10 k i + cvt (b k) p k 10 i
    rw [m3_cv h10 k]
    unfold cvt
    by_cases z : k ≤ i
    · by_cases z2 : i - k < 10
      · rw [if_pos z, if_pos ⟨z, z2⟩]
      · rw [if_pos z, if_neg (fun q => z2 q.2), h10 _ (by omega), Nat.mul_zero]
    · rw [if_neg z, if_neg (fun q => z q.1)]
theorem vs_dg (V n : Nat) : vs (2 ^ 16) (dg V) n = V % (2 ^ 16) ^ n := vs_dgt (2 ^ 16) V (by decide) n
theorem m3_vs {c V : Nat} (hc : c < 2 ^ 48) (hV : V < 2 ^ 160) : vs (2 ^ 16) (fun i => m3 (dg c) (dg V) i 3) 12 = c * V := by
  have h1 : vs (2 ^ 16) (fun i => m3 (dg c) (dg V) i 3) 12 = vs (2 ^ 16) (cv (dg c) (dg V) 10 3) 12 := vs_congr (fun i _ => m3_cv (fun j hj => dg_0 (m := 10) (by rw [← Nat.pow_mul]; exact hV) hj) 3)
  rw [h1, vs_cv 3 12 (by decide), vs_dg, vs_dg, ← Nat.pow_mul, ← Nat.pow_mul, Nat.mod_eq_of_lt hc, Nat.mod_eq_of_lt hV]
theorem vs_1 {B : Nat} {f : Nat → Nat} (n : Nat) : vs B f (n + 1) = f 0 + B * vs B (fun j => f (1 + j)) n := by
  rw [Nat.add_comm n 1, vs_split n]
  show 0 + f 0 * B ^ 0 + _ = _
  rw [Nat.pow_zero, Nat.mul_one, Nat.zero_add, Nat.pow_one]
theorem cyr_dg {x : Nat → Nat} {W i : Nat} (h : vs (2 ^ 16) x 12 = W) (hi : i < 12) : W / (2 ^ 16) ^ i = x i + cyr (2 ^ 16) x i + 2 ^ 16 * vs (2 ^ 16) (fun j => x (i + (1 + j))) (11 - i) := by
  have e1 := vs_split (B := 2 ^ 16) (w := x) (m := i) (12 - i)
  rw [show i + (12 - i) = 12 by omega, h, show 12 - i = 11 - i + 1 by omega, vs_1] at e1
  have e2 := (cyr_q (B := 2 ^ 16) (by decide) x i).1
  rw [e1, e2, Nat.add_mul_div_left _ _ (Nat.pow_pos (by decide))]
  show _ = x i + _ + _
  rw [Nat.add_zero]
  omega
theorem cdg_dg {x : Nat → Nat} {W i : Nat} (h : vs (2 ^ 16) x 12 = W) (hi : i < 12) : cdg (2 ^ 16) x i = dg W i := by
  unfold dg cdg
  rw [cyr_dg h hi, Nat.add_mul_mod_self_left]
theorem c11_dg {x : Nat → Nat} {W : Nat} (h : vs (2 ^ 16) x 12 = W) (hW : W < 2 ^ 176) : x 11 + cyr (2 ^ 16) x 11 = dg W 11 := by
  have e := cyr_dg h (i := 11) (by decide)
  rw [← Nat.pow_mul, Nat.div_eq_of_lt hW] at e
  rw [dg_0 (m := 11) (by rw [← Nat.pow_mul]; exact hW) (Nat.le_refl _)]
  omega
/-- the array while its digits are carried -/
def cst (x : Nat → Nat) (i j : Nat) : Nat := if j < i then cdg (2 ^ 16) x j else if j = i then x i + cyr (2 ^ 16) x i else x j
theorem cst_0 {x : Nat → Nat} : cst x 0 = x := by
  funext j
  unfold cst
  rw [if_neg (by omega)]
  by_cases z : j = 0
  · rw [if_pos z, z]; rfl
  · rw [if_neg z]
theorem cst_s {x : Nat → Nat} {i : Nat} : updN (updN (cst x i) (i + 1) (x (i + 1) + (x i + cyr (2 ^ 16) x i) / 2 ^ 16)) i ((x i + cyr (2 ^ 16) x i) % 2 ^ 16) = cst x (i + 1) := by
  funext j
  unfold updN
  by_cases z : j = i
  · subst z
    rw [if_pos rfl]
    unfold cst
    rw [if_pos (by omega)]
    rfl
  · rw [if_neg z]
    by_cases z2 : j = i + 1
    · rw [if_pos z2]
      unfold cst
      rw [if_neg (by omega), if_pos z2]
      rfl
    · rw [if_neg z2]
      unfold cst
      by_cases z3 : j < i
      · rw [if_pos z3, if_pos (by omega)]
      · rw [if_neg z3, if_neg z, if_neg (by omega), if_neg z2]
theorem cst_e {x : Nat → Nat} {W j : Nat} (h : vs (2 ^ 16) x 12 = W) (hW : W < 2 ^ 176) (hj : j < 12) : cst x 11 j = dg W j := by
  unfold cst
  by_cases z : j < 11
  · rw [if_pos z]; exact cdg_dg h hj
  · rw [if_neg z, if_pos (by omega), show j = 11 by omega]; exact c11_dg h hW
theorem cyr_le2 {x : Nat → Nat} (h : ∀ k, x k ≤ 3 * 2 ^ 32) : ∀ i, cyr (2 ^ 16) x i < 2 ^ 40
  | 0 => Nat.le_of_ble_eq_true rfl
  | i + 1 => by
    have h1 := h i
    have h2 := cyr_le2 h i
    show (x i + cyr (2 ^ 16) x i) / 2 ^ 16 < _
    omega
/-- is c at most the root -/
def rtQ (c n p : Nat) : Bool := decide (c ^ p / (2 ^ 16) ^ (2 * p) < n) || (decide (c ^ p / (2 ^ 16) ^ (2 * p) = n) && decide (c ^ p % (2 ^ 16) ^ (2 * p) = 0))
def rtF (n p : Nat) : Nat → Nat → Nat
  | 0, x => x
  | i + 1, x => rtF n p i (if rtQ (x + 2 ^ i) n p then x + 2 ^ i else x)
def dn (m : Nat) : Int32 := if m = 0 then -1 else nI (m - 1)
theorem dn_s (m : Nat) : dn (m + 1) = nI m := if_neg (by omega)
theorem dn_0 : dn 0 = -1 := if_pos rfl
theorem dn_d (m : Nat) : nI m + Int32.ofInt (-1) = dn m := by
  cases m with
  | zero => decide
  | succ m =>
    rw [dn_s, ← nI_add, Int32.add_assoc, show nI 1 + Int32.ofInt (-1) = 0 by decide, Int32.add_zero]
end MRoot0
