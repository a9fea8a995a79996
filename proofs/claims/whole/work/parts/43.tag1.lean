/-! the tag, as a pure function; numbers modulo 2^130 - 5 -/
abbrev PQ : Nat := 1361129467683753853853498429727072845819
def ck (k : Nat → Nat) (j : Nat) : Nat := if j % 4 = 3 then k j &&& 15 else if j % 4 = 0 ∧ j ≠ 0 then k j &&& 252 else k j
def rK (k : Nat → Nat) : Nat := vs 256 (ck k) 16
def m16 (N i : Nat) : Nat := if N - 16 * i < 16 then N - 16 * i else 16
def tq (r : Nat) (f : Nat → Nat) (N : Nat) : Nat → Nat
  | 0 => 0
  | i + 1 => (tq r f N i + (vs 256 (fun j => f (16 * i + j)) (m16 N i) + 256 ^ m16 N i)) * r % PQ
def TAG (f : Nat → Nat) (N : Nat) (k : Nat → Nat) (j : Nat) : Nat := (tq (rK k) f N ((N + 15) / 16) + vs 256 (fun j => k (16 + j)) 16) / 256 ^ j % 256
theorem TAG_lt (f : Nat → Nat) (N : Nat) (k : Nat → Nat) (j : Nat) : TAG f N k j < 256 := Nat.mod_lt _ (by decide)
theorem ck_congr {k k' : Nat → Nat} {j : Nat} (h : k j = k' j) : ck k j = ck k' j := by unfold ck; rw [h]
theorem rK_congr {k k' : Nat → Nat} (h : ∀ j, j < 16 → k j = k' j) : rK k = rK k' := vs_congr (fun j hj => ck_congr (h j hj))
theorem tq_congr {r N : Nat} {f f' : Nat → Nat} (h : ∀ j, j < N → f j = f' j) : ∀ i, tq r f N i = tq r f' N i
  | 0 => rfl
  | i + 1 => by
    simp only [tq]
    rw [tq_congr h i, vs_congr (w' := fun j => f' (16 * i + j)) (fun j hj => h _ (by unfold m16 at hj; split at hj <;> omega))]
theorem TAG_congr {f f' k k' : Nat → Nat} {N : Nat} (h : ∀ j, j < N → f j = f' j) (hk : ∀ j, j < 32 → k j = k' j) (j : Nat) : TAG f N k j = TAG f' N k' j := by
  unfold TAG
  rw [rK_congr (fun j hj => hk j (by omega)), tq_congr h, vs_congr (w := fun j => k (16 + j)) (w' := fun j => k' (16 + j)) (fun j hj => hk _ (by omega))]
theorem vs_upd {B : Nat} {w : Nat → Nat} {i x : Nat} : ∀ n, i < n → vs B (updN w i x) n + w i * B ^ i = vs B w n + x * B ^ i
  | 0, h => absurd h (Nat.not_lt_zero i)
  | n + 1, h => by
    simp only [vs]
    by_cases e : i = n
    · subst e
      rw [updN_eq, vs_congr (w' := w) (fun j hj => updN_ne (by omega))]
      omega
    · have := vs_upd (B := B) (w := w) (i := i) (x := x) n (by omega)
      rw [updN_ne (by omega)]
      omega
def car (B : Nat) (w : Nat → Nat) : Nat → Nat → Nat
  | 0 => w
  | i + 1 => updN (updN (car B w i) (i + 1) (car B w i (i + 1) + car B w i i / B)) i (car B w i i % B)
theorem car_ok {B : Nat} (hB : 0 < B) {w : Nat → Nat} {n : Nat} : ∀ i, i < n → vs B (car B w i) n = vs B w n ∧ (∀ j, j < i → car B w i j < B) ∧ (∀ j, i < j → car B w i j = w j)
  | 0, _ => ⟨rfl, fun j hj => absurd hj (Nat.not_lt_zero j), fun _ _ => rfl⟩
  | i + 1, hi => by
    obtain ⟨h1, h2, h3⟩ := car_ok hB (w := w) (n := n) i (by omega)
    refine ⟨?_, fun j hj => ?_, fun j hj => ?_⟩
    · rw [← h1]
      simp only [car]
      generalize car B w i = v
      have e1 := vs_upd (B := B) (w := updN v (i + 1) (v (i + 1) + v i / B)) (i := i) (x := v i % B) n (by omega)
      have e2 := vs_upd (B := B) (w := v) (i := i + 1) (x := v (i + 1) + v i / B) n (by omega)
      rw [updN_ne (show i ≠ i + 1 by omega)] at e1
      rw [Nat.add_mul] at e2
      have e3 : v i * B ^ i = v i % B * B ^ i + v i / B * B ^ (i + 1) := by
        rw [Nat.pow_succ', ← Nat.mul_assoc, ← Nat.add_mul, Nat.mul_comm (v i / B), Nat.mod_add_div]
      omega
    · simp only [car]
      by_cases e : j = i
      · subst e; rw [updN_eq]; exact Nat.mod_lt _ hB
      · rw [updN_ne e, updN_ne (by omega)]; exact h2 j (by omega)
    · simp only [car]
      rw [updN_ne (by omega), updN_ne (by omega)]
      exact h3 j (by omega)
theorem car_b {w : Nat → Nat} {n c : Nat} (hw : ∀ j, j < n → w j < 2 ^ c) (hc : 27 ≤ c) : ∀ i, i ≤ n → car (2 ^ 26) w i i < w i + 2 ^ (c - 25)
  | 0, _ => Nat.lt_add_of_pos_right (Nat.two_pow_pos _)
  | i + 1, hi => by
    have h := car_b hw hc i (by omega)
    have h0 := hw i (by omega)
    have h3 := (car_ok (B := 2 ^ 26) (by decide) (w := w) (n := i + 2) i (by omega)).2.2 (i + 1) (by omega)
    simp only [car]
    rw [updN_ne (by omega), updN_eq, h3]
    have e : 2 ^ c = 2 ^ 25 * 2 ^ (c - 25) := wb_pw (by omega)
    have e2 : 2 ^ 2 ≤ 2 ^ (c - 25) := Nat.pow_le_pow_right (by decide) (by omega)
    generalize 2 ^ (c - 25) = z at *
    generalize car (2 ^ 26) w i i = y at *
    have : y / 2 ^ 26 < z := by
      rw [Nat.div_lt_iff_lt_mul (by decide)]
      omega
    omega
def cr5 (w : Nat → Nat) : Nat → Nat := updN (updN (car (2 ^ 26) w 4) 0 (car (2 ^ 26) w 4 0 + 5 * (car (2 ^ 26) w 4 4 / 2 ^ 26))) 4 (car (2 ^ 26) w 4 4 % 2 ^ 26)
theorem cr5_ok {w : Nat → Nat} (h : ∀ j, j < 4 → w j < 2 ^ 61) (h4 : w 4 < 2 ^ 56) : vs (2 ^ 26) (cr5 w) 5 % PQ = vs (2 ^ 26) w 5 % PQ ∧ cr5 w 0 < 2 ^ 33 ∧ ∀ j, 0 < j → j < 5 → cr5 w j < 2 ^ 26 := by
  obtain ⟨h1, h2, h3⟩ := car_ok (B := 2 ^ 26) (by decide) (w := w) (n := 5) 4 (by decide)
  have hb := car_b (w := w) (n := 4) (c := 61) h (by decide) 4 (Nat.le_refl _)
  unfold cr5
  generalize car (2 ^ 26) w 4 = v at *
  have hv4 : v 4 < 2 ^ 57 := by
    have : w 4 + 2 ^ (61 - 25) < 2 ^ 57 := by omega
    omega
  have hv0 := h2 0 (by decide)
  refine ⟨?_, ?_, fun j hj0 hj => ?_⟩
  · rw [← h1]
    have e1 := vs_upd (B := 2 ^ 26) (w := updN v 0 (v 0 + 5 * (v 4 / 2 ^ 26))) (i := 4) (x := v 4 % 2 ^ 26) 5 (by decide)
    have e2 := vs_upd (B := 2 ^ 26) (w := v) (i := 0) (x := v 0 + 5 * (v 4 / 2 ^ 26)) 5 (by decide)
    rw [updN_ne (by decide)] at e1
    have e3 : v 4 = v 4 % 2 ^ 26 + 2 ^ 26 * (v 4 / 2 ^ 26) := (Nat.mod_add_div _ _).symm
    generalize v 4 % 2 ^ 26 = a at *
    generalize v 4 / 2 ^ 26 = c at *
    generalize vs (2 ^ 26) (updN (updN v 0 (v 0 + 5 * c)) 4 a) 5 = X at *
    generalize vs (2 ^ 26) (updN v 0 (v 0 + 5 * c)) 5 = Y at *
    have : vs (2 ^ 26) v 5 = X + c * PQ := by
      rw [e3] at e1
      simp only [show ((2 : Nat) ^ 26) ^ 4 = 20282409603651670423947251286016 by decide, show ((2 : Nat) ^ 26) ^ 0 = 1 by decide, show (2 : Nat) ^ 26 = 67108864 by decide, PQ] at e1 e2 ⊢
      omega
    rw [this, Nat.add_mul_mod_self_right]
  · rw [updN_ne (by decide), updN_eq]
    have : v 4 / 2 ^ 26 < 2 ^ 31 := by omega
    omega
  · by_cases e : j = 4
    · subst e; rw [updN_eq]; exact Nat.mod_lt _ (by decide)
    · rw [updN_ne e, updN_ne (by omega)]
      exact h2 j (by omega)
