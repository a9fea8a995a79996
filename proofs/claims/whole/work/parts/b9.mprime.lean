/-! the first 64 primes -/
section MPrime
def p64 : List Nat := [2, 3, 5, 7, 11, 13, 17, 19, 23, 29, 31, 37, 41, 43, 47, 53, 59, 61, 67, 71, 73, 79, 83, 89, 97, 101, 103, 107, 109, 113, 127, 131, 137, 139, 149, 151, 157, 163, 167, 173, 179, 181, 191, 193, 197, 199, 211, 223, 227, 229, 233, 239, 241, 251, 257, 263, 269, 271, 277, 281, 283, 293, 307, 311]
def pmB (n : Nat) : Nat → Bool
  | 0 => true
  | m + 1 => pmB n m && !decide (n % (m + 2) = 0)
def pcL (n : Nat) : List Nat → Nat
  | [] => 0
  | p :: l => (if p < n then 1 else 0) + pcL n l
def pcn (i : Nat) : Nat := pcL (i + 2) p64
def pck (i : Nat) : Bool := (if pmB (i + 2) i then decide (pcn (i + 1) = pcn i + 1) && decide (gD p64 (pcn i) = i + 2) else decide (pcn (i + 1) = pcn i)) && decide (pcn i < 64)
def pall : Nat → Bool
  | 0 => true
  | m + 1 => pall m && pck m
theorem pall_ok : pall 310 = true := by decide +kernel
theorem pall_at : ∀ m, pall m = true → ∀ i, i < m → pck i = true
  | 0, _, i, hi => absurd hi (Nat.not_lt_zero i)
  | m + 1, h, i, hi => by
    have h2 : (pall m && pck m) = true := h
    rw [Bool.and_eq_true] at h2
    by_cases z : i = m
    · rw [z]; exact h2.2
    · exact pall_at m h2.1 i (by omega)
theorem pc_0 : pcn 0 = 0 := by decide +kernel
theorem pc_e : pcn 310 = 64 := by decide +kernel
theorem pc_lt {i : Nat} (hi : i < 310) : pcn i < 64 := by
  have h := pall_at 310 pall_ok i hi
  unfold pck at h
  rw [Bool.and_eq_true] at h
  exact of_decide_eq_true h.2
theorem pc_t {i : Nat} (hi : i < 310) (hp : pmB (i + 2) i = true) : pcn (i + 1) = pcn i + 1 ∧ gD p64 (pcn i) = i + 2 := by
  have h := pall_at 310 pall_ok i hi
  unfold pck at h
  rw [Bool.and_eq_true, if_pos hp, Bool.and_eq_true] at h
  exact ⟨of_decide_eq_true h.1.1, of_decide_eq_true h.1.2⟩
theorem pc_f {i : Nat} (hi : i < 310) (hp : pmB (i + 2) i = false) : pcn (i + 1) = pcn i := by
  have h := pall_at 310 pall_ok i hi
  unfold pck at h
  rw [Bool.and_eq_true, if_neg (by rw [hp]; decide)] at h
  exact of_decide_eq_true h.1
end MPrime
