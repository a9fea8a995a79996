/-! numbers as rows of limbs -/
def updN (g : Nat → Nat) (k x : Nat) : Nat → Nat := fun j => if j = k then x else g j
theorem updL_N (g : Nat → Nat) (k x : Nat) : vp_updL (fun j => lN (g j)) k (lN x) = fun j => lN (updN g k x j) := by
  funext j
  simp only [vp_updL, updN]
  split <;> rfl
theorem updN_eq {g : Nat → Nat} {k x : Nat} : updN g k x k = x := if_pos rfl
theorem updN_ne {g : Nat → Nat} {k x j : Nat} (h : j ≠ k) : updN g k x j = g j := if_neg h
def vs (B : Nat) (w : Nat → Nat) : Nat → Nat
  | 0 => 0
  | n + 1 => vs B w n + w n * B ^ n
theorem vs_congr {B : Nat} {w w' : Nat → Nat} : ∀ {n : Nat}, (∀ i, i < n → w i = w' i) → vs B w n = vs B w' n
  | 0, _ => rfl
  | n + 1, h => by
    simp only [vs]
    rw [vs_congr (fun i hi => h i (by omega)), h n (by omega)]
theorem vs_add (B : Nat) (w w' : Nat → Nat) : ∀ n, vs B (fun i => w i + w' i) n = vs B w n + vs B w' n
  | 0 => rfl
  | n + 1 => by
    simp only [vs]
    rw [vs_add B w w' n, Nat.add_mul]
    omega
theorem vs_mul (B c : Nat) (w : Nat → Nat) : ∀ n, vs B (fun i => c * w i) n = c * vs B w n
  | 0 => rfl
  | n + 1 => by
    simp only [vs]
    rw [vs_mul B c w n, Nat.mul_add, Nat.mul_assoc]
/-- the carries: what stays and what goes on is what stood there and what came -/
theorem vs_step {B n : Nat} {v w : Nat → Nat} {c c' : Nat} (ih : vs B v n + c * B ^ n = vs B w n) (h : v n + B * c' = w n + c) : vs B v (n + 1) + c' * B ^ (n + 1) = vs B w (n + 1) := by
  simp only [vs]
  have e : v n * B ^ n + c' * B ^ (n + 1) = (v n + B * c') * B ^ n := by
    rw [Nat.add_mul, Nat.pow_succ]
    congr 1
    rw [Nat.mul_comm (B ^ n) B, ← Nat.mul_assoc, Nat.mul_comm c' B]
  rw [Nat.add_assoc, e, h, Nat.add_mul]
  omega
theorem vs_lt {B n : Nat} {v : Nat → Nat} (hB : 0 < B) (h : ∀ j, j < n → v j < B) : vs B v n < B ^ n := by
  induction n with
  | zero => simp [vs]
  | succ n ih =>
    simp only [vs]
    have h1 := ih (fun j hj => h j (by omega))
    have h2 : v n * B ^ n ≤ (B - 1) * B ^ n := Nat.mul_le_mul_right _ (by have := h n (by omega); omega)
    have h3 : (B - 1) * B ^ n + B ^ n = B ^ (n + 1) := by
      rw [Nat.pow_succ, Nat.mul_comm (B ^ n) B, ← Nat.succ_mul]
      congr 1
      omega
    omega
/-! the fold of twenty limbs to ten: the upper half's carries, then the lower half's -/
def fo1 (w : Nat → Nat) : Nat → (Nat → Nat) × Nat
  | 0 => (w, 0)
  | i + 1 => (updN (fo1 w i).1 (10 + i) (((fo1 w i).1 (10 + i) + (fo1 w i).2) % 2 ^ 26), ((fo1 w i).1 (10 + i) + (fo1 w i).2) / 2 ^ 26)
theorem fo1_spec (w : Nat → Nat) : ∀ i, (∀ j, ¬ (10 ≤ j ∧ j < 10 + i) → (fo1 w i).1 j = w j) ∧ (∀ j, j < i → (fo1 w i).1 (10 + j) < 2 ^ 26) ∧ vs (2 ^ 26) (fun j => (fo1 w i).1 (10 + j)) i + (fo1 w i).2 * (2 ^ 26) ^ i = vs (2 ^ 26) (fun j => w (10 + j)) i
  | 0 => ⟨fun _ _ => rfl, fun j hj => by omega, by simp [vs, fo1]⟩
  | i + 1 => by
    obtain ⟨h1, h2, h3⟩ := fo1_spec w i
    have hw : (fo1 w i).1 (10 + i) = w (10 + i) := h1 _ (by omega)
    refine ⟨fun j hj => ?_, fun j hj => ?_, ?_⟩
    · simp only [fo1]
      rw [updN_ne (by omega)]
      exact h1 j (by omega)
    · simp only [fo1]
      by_cases hji : j = i
      · subst hji
        rw [updN_eq]
        exact Nat.mod_lt _ (by decide)
      · rw [updN_ne (by omega)]
        exact h2 j (by omega)
    · refine vs_step (c := (fo1 w i).2) ?_ ?_
      · rw [← h3]
        congr 1
        refine vs_congr (fun j hj => ?_)
        simp only [fo1]
        rw [updN_ne (by omega)]
      · simp only [fo1, updN_eq]
        rw [hw]
        exact Nat.mod_add_div _ _
theorem fo1_c {w : Nat → Nat} {i : Nat} (h : ∀ j, j < i → w (10 + j) < 2 ^ 61) : (fo1 w i).2 < 2 ^ 36 := by
  induction i with
  | zero => simp [fo1]
  | succ i ih =>
    have h1 := ih (fun j hj => h j (by omega))
    have h2 : (fo1 w i).1 (10 + i) = w (10 + i) := (fo1_spec w i).1 _ (by omega)
    have h3 := h i (by omega)
    simp only [fo1, h2]
    omega
def fo2 (w r : Nat → Nat) : Nat → (Nat → Nat) × Nat
  | 0 => (r, 0)
  | i + 1 => (updN (fo2 w r i).1 i ((w i + 608 * w (i + 10) + (fo2 w r i).2) % 2 ^ 26), (w i + 608 * w (i + 10) + (fo2 w r i).2) / 2 ^ 26)
theorem fo2_spec (w r : Nat → Nat) : ∀ i, (∀ j, ¬ j < i → (fo2 w r i).1 j = r j) ∧ (∀ j, j < i → (fo2 w r i).1 j < 2 ^ 26) ∧ vs (2 ^ 26) (fo2 w r i).1 i + (fo2 w r i).2 * (2 ^ 26) ^ i = vs (2 ^ 26) (fun j => w j + 608 * w (j + 10)) i
  | 0 => ⟨fun _ _ => rfl, fun j hj => by omega, by simp [vs, fo2]⟩
  | i + 1 => by
    obtain ⟨h1, h2, h3⟩ := fo2_spec w r i
    refine ⟨fun j hj => ?_, fun j hj => ?_, ?_⟩
    · simp only [fo2]
      rw [updN_ne (by omega)]
      exact h1 j (by omega)
    · simp only [fo2]
      by_cases hji : j = i
      · subst hji
        rw [updN_eq]
        exact Nat.mod_lt _ (by decide)
      · rw [updN_ne (by omega)]
        exact h2 j (by omega)
    · refine vs_step (c := (fo2 w r i).2) ?_ ?_
      · rw [← h3]
        congr 1
        refine vs_congr (fun j hj => ?_)
        simp only [fo2]
        rw [updN_ne (by omega)]
      · simp only [fo2, updN_eq]
        exact Nat.mod_add_div _ _
theorem fo2_c {w r : Nat → Nat} {i : Nat} (h : ∀ j, j < i → w j < 2 ^ 61) (h' : ∀ j, j < i → w (j + 10) < 2 ^ 26) : (fo2 w r i).2 < 2 ^ 36 := by
  induction i with
  | zero => simp [fo2]
  | succ i ih =>
    have h1 := ih (fun j hj => h j (by omega)) (fun j hj => h' j (by omega))
    have h3 := h i (by omega)
    have h4 := h' i (by omega)
    simp only [fo2]
    omega
/-- the whole fold -/
def foT (w r : Nat → Nat) : Nat := (fo1 w 10).1 9 + 608 * (fo1 w 10).1 19 + (fo2 (fo1 w 10).1 r 9).2
def foL (w r : Nat → Nat) : Nat := updN (fo2 (fo1 w 10).1 r 9).1 9 (foT w r % 2 ^ 21) 0 + 19 * (foT w r / 2 ^ 21)
def foR (w r : Nat → Nat) : Nat → Nat := updN (updN (updN (fo2 (fo1 w 10).1 r 9).1 9 (foT w r % 2 ^ 21)) 0 (foL w r % 2 ^ 26)) 1 (updN (updN (fo2 (fo1 w 10).1 r 9).1 9 (foT w r % 2 ^ 21)) 0 (foL w r % 2 ^ 26) 1 + foL w r / 2 ^ 26)
abbrev PP : Nat := 57896044618658097711785492504343953926634992332820282019728792003956564819949
/-- limbs of a product; limbs of a sum or a difference -/
def fA (x : Nat → Nat) : Prop := (∀ j, j < 9 → x j < 2 ^ 26 + 2 ^ 20) ∧ x 9 < 2 ^ 21
def fB (x : Nat → Nat) : Prop := (∀ j, j < 9 → x j < 2 ^ 28) ∧ x 9 < 2 ^ 23
theorem fA.B {x : Nat → Nat} (h : fA x) : fB x := ⟨fun j hj => by have := h.1 j hj; omega, by have := h.2; omega⟩
abbrev v10 (x : Nat → Nat) : Nat := vs (2 ^ 26) x 10
theorem foR_ok {w r : Nat → Nat} (h : ∀ j, j < 20 → w j < 2 ^ 61) (hh : vs (2 ^ 26) (fun j => w (10 + j)) 10 < 2 ^ 260) :
    fA (foR w r) ∧ v10 (foR w r) + foT w r / 2 ^ 21 * PP = vs (2 ^ 26) w 10 + 608 * vs (2 ^ 26) (fun j => w (10 + j)) 10 := by
  obtain ⟨a1, a2, a3⟩ := fo1_spec w 10
  have c1 : (fo1 w 10).2 = 0 := by
    rw [show ((2 : Nat) ^ 26) ^ 10 = 2 ^ 260 by decide] at a3
    rcases Nat.eq_zero_or_pos (fo1 w 10).2 with q | q
    · exact q
    · have : 1 * 2 ^ 260 ≤ (fo1 w 10).2 * 2 ^ 260 := Nat.mul_le_mul_right _ q
      omega
  rw [c1, Nat.zero_mul, Nat.add_zero] at a3
  have w1lo : ∀ j, j < 10 → (fo1 w 10).1 j = w j := fun j hj => a1 j (by omega)
  obtain ⟨b1, b2, b3⟩ := fo2_spec (fo1 w 10).1 r 9
  have hlo : ∀ j, j < 9 → (fo1 w 10).1 j < 2 ^ 61 := fun j hj => by rw [w1lo j (by omega)]; exact h j (by omega)
  have hhi : ∀ j, j < 9 → (fo1 w 10).1 (j + 10) < 2 ^ 26 := fun j hj => by rw [Nat.add_comm]; exact a2 j (by omega)
  have hc2 := fo2_c (r := r) hlo hhi
  have hT : foT w r < 2 ^ 62 := by
    unfold foT
    have q1 := h 9 (by omega)
    have q2 : (fo1 w 10).1 19 < 2 ^ 26 := a2 9 (by omega)
    rw [w1lo 9 (by omega)]
    omega
  have e1 : vs (2 ^ 26) (fo2 (fo1 w 10).1 r 9).1 9 + foT w r * (2 ^ 26) ^ 9 = vs (2 ^ 26) w 10 + 608 * vs (2 ^ 26) (fun j => w (10 + j)) 10 := by
    have e2 : vs (2 ^ 26) (fun j => (fo1 w 10).1 j + 608 * (fo1 w 10).1 (j + 10)) 10 = vs (2 ^ 26) w 10 + 608 * vs (2 ^ 26) (fun j => w (10 + j)) 10 := by
      have ea : vs (2 ^ 26) (fun j => (fo1 w 10).1 j) 10 = vs (2 ^ 26) w 10 := vs_congr w1lo
      have eb : vs (2 ^ 26) (fun j => (fo1 w 10).1 (j + 10)) 10 = vs (2 ^ 26) (fun j => (fo1 w 10).1 (10 + j)) 10 := vs_congr (fun j _ => by rw [Nat.add_comm])
      rw [vs_add, vs_mul, ea, eb, a3]
    rw [← e2]
    show _ = vs (2 ^ 26) (fun j => (fo1 w 10).1 j + 608 * (fo1 w 10).1 (j + 10)) 9 + ((fo1 w 10).1 9 + 608 * (fo1 w 10).1 19) * (2 ^ 26) ^ 9
    rw [← b3]
    unfold foT
    rw [Nat.add_mul _ (fo2 (fo1 w 10).1 r 9).2]
    generalize ((2 : Nat) ^ 26) ^ 9 = X
    generalize ((fo1 w 10).1 9 + 608 * (fo1 w 10).1 19) * X = Y
    omega
  generalize hz : (fo2 (fo1 w 10).1 r 9).1 = z at *
  generalize hTT : foT w r = T at *
  have hL : foL w r = z 0 + 19 * (T / 2 ^ 21) := by
    unfold foL
    rw [hz, hTT, updN_ne (by omega)]
  have hR : ∀ j, foR w r j = if j = 1 then z 1 + foL w r / 2 ^ 26 else if j = 0 then foL w r % 2 ^ 26 else if j = 9 then T % 2 ^ 21 else z j := by
    intro j
    unfold foR
    rw [hz, hTT]
    simp only [updN]
    by_cases h1 : j = 1
    · subst h1; simp
    · by_cases h0 : j = 0
      · subst h0; simp
      · simp [h1, h0]
  have z0 := b2 0 (by omega)
  have z1 := b2 1 (by omega)
  refine ⟨⟨fun j hj => ?_, ?_⟩, ?_⟩
  · rw [hR]
    by_cases h1 : j = 1
    · rw [if_pos h1, hL]
      omega
    · rw [if_neg h1]
      by_cases h0 : j = 0
      · rw [if_pos h0]
        have := Nat.mod_lt (foL w r) (show 0 < 2 ^ 26 by decide)
        omega
      · rw [if_neg h0, if_neg (by omega)]
        have := b2 j hj
        omega
  · rw [hR]
    simp only [show ¬ (9 : Nat) = 1 by decide, show ¬ (9 : Nat) = 0 by decide, if_false, if_true]
    exact Nat.mod_lt _ (by decide)
  · rw [← e1]
    have q0 : foR w r 0 = foL w r % 2 ^ 26 := by rw [hR]; rfl
    have q1 : foR w r 1 = z 1 + foL w r / 2 ^ 26 := by rw [hR]; rfl
    have q2 : foR w r 2 = z 2 := by rw [hR]; rfl
    have q3 : foR w r 3 = z 3 := by rw [hR]; rfl
    have q4 : foR w r 4 = z 4 := by rw [hR]; rfl
    have q5 : foR w r 5 = z 5 := by rw [hR]; rfl
    have q6 : foR w r 6 = z 6 := by rw [hR]; rfl
    have q7 : foR w r 7 = z 7 := by rw [hR]; rfl
    have q8 : foR w r 8 = z 8 := by rw [hR]; rfl
    have q9 : foR w r 9 = T % 2 ^ 21 := by rw [hR]; rfl
    clear a1 a2 a3 b1 b2 b3 e1 hR hlo hhi hh h
    simp only [v10, vs, q0, q1, q2, q3, q4, q5, q6, q7, q8, q9, hL, PP]
    simp only [Nat.reducePow, Nat.mul_one, Nat.zero_add]
    omega
