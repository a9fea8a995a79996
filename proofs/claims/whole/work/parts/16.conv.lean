/-! the product of two rows of limbs -/
def cvt (c : Nat) (y : Nat → Nat) (m L : Nat) : Nat → Nat := fun k => if m ≤ k ∧ k - m < L then c * y (k - m) else 0
theorem vs_zero (B : Nat) : ∀ n, vs B (fun _ => 0) n = 0
  | 0 => rfl
  | n + 1 => by simp [vs, vs_zero B n]
theorem vs_cvt_lo {B c : Nat} {y : Nat → Nat} {m L : Nat} : ∀ n, n ≤ m → vs B (cvt c y m L) n = 0
  | 0, _ => rfl
  | n + 1, h => by
    simp only [vs]
    rw [vs_cvt_lo n (by omega)]
    unfold cvt
    rw [if_neg (by omega)]
    simp
theorem vs_cvt_mid {B c : Nat} {y : Nat → Nat} {m L : Nat} : ∀ n, n ≤ L → vs B (cvt c y m L) (m + n) = c * B ^ m * vs B y n
  | 0, _ => by rw [Nat.add_zero, vs_cvt_lo m (Nat.le_refl m)]; simp [vs]
  | n + 1, h => by
    rw [show m + (n + 1) = (m + n) + 1 by omega]
    simp only [vs]
    rw [vs_cvt_mid n (by omega)]
    unfold cvt
    rw [if_pos ⟨by omega, by omega⟩, show m + n - m = n by omega, Nat.mul_add, Nat.pow_add]
    congr 1
    rw [Nat.mul_assoc c (y n), Nat.mul_assoc c (B ^ m), ← Nat.mul_assoc (y n), ← Nat.mul_assoc (B ^ m), Nat.mul_comm (y n)]
theorem vs_cvt_hi {B c : Nat} {y : Nat → Nat} {m L : Nat} : ∀ n, vs B (cvt c y m L) (m + L + n) = c * B ^ m * vs B y L
  | 0 => by rw [Nat.add_zero]; exact vs_cvt_mid L (Nat.le_refl L)
  | n + 1 => by
    rw [show m + L + (n + 1) = (m + L + n) + 1 by omega]
    simp only [vs]
    rw [vs_cvt_hi n]
    unfold cvt
    rw [if_neg (by omega)]
    simp
def cv (x y : Nat → Nat) (L : Nat) : Nat → Nat → Nat
  | 0 => fun _ => 0
  | m + 1 => fun k => cv x y L m k + cvt (x m) y m L k
theorem vs_cv {B : Nat} {x y : Nat → Nat} {L : Nat} : ∀ m N, m + L ≤ N + 1 → vs B (cv x y L m) N = vs B x m * vs B y L
  | 0, N, _ => by
    show vs B (fun _ => 0) N = _
    rw [vs_zero]; simp [vs]
  | m + 1, N, h => by
    show vs B (fun k => cv x y L m k + cvt (x m) y m L k) N = _
    rw [vs_add, vs_cv m N (by omega)]
    obtain ⟨e, he⟩ : ∃ e, N = m + L + e := ⟨N - (m + L), by omega⟩
    rw [he, vs_cvt_hi e]
    simp only [vs]
    rw [Nat.add_mul]
/-- the twenty limbs of a product of ten and ten -/
abbrev w20 (x y : Nat → Nat) : Nat → Nat := cv x y 10 10
theorem w20_val (x y : Nat → Nat) : vs (2 ^ 26) (w20 x y) 20 = v10 x * v10 y := vs_cv 10 20 (by decide)
theorem vs_split {B : Nat} {w : Nat → Nat} {m : Nat} : ∀ n, vs B w (m + n) = vs B w m + B ^ m * vs B (fun j => w (m + j)) n
  | 0 => by simp [vs]
  | n + 1 => by
    rw [show m + (n + 1) = (m + n) + 1 by omega]
    simp only [vs]
    rw [vs_split n, Nat.mul_add, Nat.pow_add]
    rw [Nat.add_assoc]
    congr 2
    rw [← Nat.mul_assoc, Nat.mul_comm (w (m + n))]
    rw [Nat.mul_assoc, Nat.mul_comm (w (m + n))]
theorem p260 : (2 : Nat) ^ 260 = 32 * PP + 608 := by decide
/-- a fold's number is the number of its twenty limbs, modulo P -/
theorem foR_mod {w r : Nat → Nat} (h : ∀ j, j < 20 → w j < 2 ^ 61) (hh : vs (2 ^ 26) (fun j => w (10 + j)) 10 < 2 ^ 260) : fA (foR w r) ∧ v10 (foR w r) % PP = vs (2 ^ 26) w 20 % PP := by
  obtain ⟨h1, h2⟩ := foR_ok (r := r) h hh
  refine ⟨h1, ?_⟩
  have e : vs (2 ^ 26) w 20 = vs (2 ^ 26) w 10 + (2 ^ 26) ^ 10 * vs (2 ^ 26) (fun j => w (10 + j)) 10 := vs_split (m := 10) 10
  rw [show ((2 : Nat) ^ 26) ^ 10 = 2 ^ 260 by decide, p260] at e
  have e2 : vs (2 ^ 26) w 20 = v10 (foR w r) + foT w r / 2 ^ 21 * PP + 32 * vs (2 ^ 26) (fun j => w (10 + j)) 10 * PP := by
    rw [h2, e, Nat.add_mul, Nat.mul_right_comm 32 PP]
    omega
  rw [e2, Nat.add_mul_mod_self_right, Nat.add_mul_mod_self_right]
theorem w20_lt {x y : Nat → Nat} (hx : fB x) (hy : fB y) : (∀ j, j < 20 → w20 x y j < 2 ^ 61) ∧ vs (2 ^ 26) (fun j => w20 x y (10 + j)) 10 < 2 ^ 260 := by
  have hx' : ∀ j, j < 10 → x j < 2 ^ 28 := fun j hj => by
    rcases Nat.lt_or_ge j 9 with q | q
    · exact hx.1 j q
    · have : j = 9 := by omega
      subst this; have := hx.2; omega
  have hy' : ∀ j, j < 10 → y j < 2 ^ 28 := fun j hj => by
    rcases Nat.lt_or_ge j 9 with q | q
    · exact hy.1 j q
    · have : j = 9 := by omega
      subst this; have := hy.2; omega
  have hm : ∀ a b, a < 10 → b < 10 → x a * y b < 2 ^ 56 := fun a b ha hb => by
    have h1 : x a * y b ≤ x a * 2 ^ 28 := Nat.mul_le_mul_left _ (Nat.le_of_lt (hy' b hb))
    have h2 : x a * 2 ^ 28 < 2 ^ 28 * 2 ^ 28 := Nat.mul_lt_mul_of_pos_right (hx' a ha) (by decide)
    omega
  have hc : ∀ m, m ≤ 10 → ∀ k, cv x y 10 m k ≤ m * 2 ^ 56 := by
    intro m
    induction m with
    | zero => intro _ k; simp [cv]
    | succ m ih =>
      intro hm10 k
      have h1 := ih (by omega) k
      have h2 : cvt (x m) y m 10 k ≤ 2 ^ 56 := by
        unfold cvt
        split
        · exact Nat.le_of_lt (hm m (k - m) (by omega) (by omega))
        · omega
      show cv x y 10 m k + cvt (x m) y m 10 k ≤ _
      omega
  refine ⟨fun j _ => by have := hc 10 (by omega) j; show cv x y 10 10 j < _; omega, ?_⟩
  -- the whole product is below 2^520, and the upper half is its part above 2^260
  have hvx : v10 x < 2 ^ 258 := by
    have h0 := hx.1
    have h9 := hx.2
    simp only [v10, vs]
    have a0 := h0 0 (by omega); have a1 := h0 1 (by omega); have a2 := h0 2 (by omega); have a3 := h0 3 (by omega); have a4 := h0 4 (by omega)
    have a5 := h0 5 (by omega); have a6 := h0 6 (by omega); have a7 := h0 7 (by omega); have a8 := h0 8 (by omega)
    simp only [Nat.reducePow, Nat.mul_one, Nat.zero_add] at *
    omega
  have hvy : v10 y < 2 ^ 258 := by
    have h0 := hy.1
    have h9 := hy.2
    simp only [v10, vs]
    have a0 := h0 0 (by omega); have a1 := h0 1 (by omega); have a2 := h0 2 (by omega); have a3 := h0 3 (by omega); have a4 := h0 4 (by omega)
    have a5 := h0 5 (by omega); have a6 := h0 6 (by omega); have a7 := h0 7 (by omega); have a8 := h0 8 (by omega)
    simp only [Nat.reducePow, Nat.mul_one, Nat.zero_add] at *
    omega
  have e : vs (2 ^ 26) (w20 x y) 20 = vs (2 ^ 26) (w20 x y) 10 + (2 ^ 26) ^ 10 * vs (2 ^ 26) (fun j => w20 x y (10 + j)) 10 := vs_split (m := 10) 10
  rw [w20_val, show ((2 : Nat) ^ 26) ^ 10 = 2 ^ 260 by decide] at e
  have h3 : v10 x * v10 y < 2 ^ 258 * 2 ^ 258 := Nat.mul_lt_mul'' hvx hvy
  rcases Nat.lt_or_ge (vs (2 ^ 26) (fun j => w20 x y (10 + j)) 10) (2 ^ 260) with q | q
  · exact q
  · have h4 : 2 ^ 260 * 2 ^ 260 ≤ 2 ^ 260 * vs (2 ^ 26) (fun j => w20 x y (10 + j)) 10 := Nat.mul_le_mul_left _ q
    exfalso
    have h5 : (2 : Nat) ^ 258 * 2 ^ 258 < 2 ^ 260 * 2 ^ 260 := by decide
    omega
