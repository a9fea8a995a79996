def ovr (q : Nat → Nat) : Nat → Nat
  | 0 => 5
  | i + 1 => (q i + ovr q i) / 2 ^ 26
theorem ovr_ok (q : Nat → Nat) : ∀ i, ovr q i = (vs (2 ^ 26) q i + 5) / (2 ^ 26) ^ i
  | 0 => by simp [ovr, vs]
  | i + 1 => by
    simp only [ovr, vs]
    rw [ovr_ok q i]
    show _ = _ / ((2 ^ 26) ^ i * 2 ^ 26)
    rw [← Nat.div_div_eq_div_mul]
    congr 1
    rw [show vs (2 ^ 26) q i + q i * (2 ^ 26) ^ i + 5 = vs (2 ^ 26) q i + 5 + q i * (2 ^ 26) ^ i by omega, Nat.add_mul_div_right _ _ (Nat.pow_pos (by decide)), Nat.add_comm]
def ts5 (q : Nat → Nat) : Nat → Nat := updN (car (2 ^ 26) (updN q 0 (q 0 + 5 * ovr q 5)) 4) 4 (car (2 ^ 26) (updN q 0 (q 0 + 5 * ovr q 5)) 4 4 % 2 ^ 26)
theorem vs5_lt {q : Nat → Nat} (h0 : q 0 < 2 ^ 33) (h : ∀ j, 0 < j → j < 5 → q j < 2 ^ 26) : vs (2 ^ 26) q 5 < 2 ^ 130 + 2 ^ 33 := by
  have h1 := h 1 (by decide) (by decide)
  have h2 := h 2 (by decide) (by decide)
  have h3 := h 3 (by decide) (by decide)
  have h4 := h 4 (by decide) (by decide)
  simp only [vs, Nat.zero_add]
  simp only [show ((2 : Nat) ^ 26) ^ 4 = 20282409603651670423947251286016 by decide, show ((2 : Nat) ^ 26) ^ 3 = 302231454903657293676544 by decide, show ((2 : Nat) ^ 26) ^ 2 = 4503599627370496 by decide, show ((2 : Nat) ^ 26) ^ 1 = 67108864 by decide, show ((2 : Nat) ^ 26) ^ 0 = 1 by decide]
  omega
theorem ts5_ok {q : Nat → Nat} (h0 : q 0 < 2 ^ 33) (h : ∀ j, 0 < j → j < 5 → q j < 2 ^ 26) : vs (2 ^ 26) (ts5 q) 5 = vs (2 ^ 26) q 5 % PQ ∧ ∀ j, j < 5 → ts5 q j < 2 ^ 26 := by
  have hV := vs5_lt h0 h
  have ho := ovr_ok q 5
  have hu := vs_upd (B := 2 ^ 26) (w := q) (i := 0) (x := q 0 + 5 * ovr q 5) 5 (by decide)
  unfold ts5
  generalize updN q 0 (q 0 + 5 * ovr q 5) = w at *
  obtain ⟨h1, h2, h3⟩ := car_ok (B := 2 ^ 26) (by decide) (w := w) (n := 5) 4 (by decide)
  generalize car (2 ^ 26) w 4 = v at *
  refine ⟨?_, fun j hj => ?_⟩
  · have e1 := vs_upd (B := 2 ^ 26) (w := v) (i := 4) (x := v 4 % 2 ^ 26) 5 (by decide)
    have e4 : vs (2 ^ 26) v 5 = vs (2 ^ 26) v 4 + v 4 * (2 ^ 26) ^ 4 := rfl
    have e5 := vs_lt (B := 2 ^ 26) (n := 4) (v := v) (by decide) (fun j hj => h2 j hj)
    have e3 : v 4 = v 4 % 2 ^ 26 + 2 ^ 26 * (v 4 / 2 ^ 26) := (Nat.mod_add_div _ _).symm
    have e6 : v 4 % 2 ^ 26 < 2 ^ 26 := Nat.mod_lt _ (by decide)
    rw [h1] at e1 e4
    generalize vs (2 ^ 26) (updN v 4 (v 4 % 2 ^ 26)) 5 = X at *
    generalize vs (2 ^ 26) w 5 = Y at *
    generalize vs (2 ^ 26) q 5 = V at *
    generalize ovr q 5 = o at *
    generalize v 4 % 2 ^ 26 = a at *
    generalize v 4 / 2 ^ 26 = c at *
    generalize vs (2 ^ 26) v 4 = Z at *
    generalize v 4 = v4 at *
    simp only [show ((2 : Nat) ^ 26) ^ 5 = 1361129467683753853853498429727072845824 by decide] at ho
    simp only [show ((2 : Nat) ^ 26) ^ 4 = 20282409603651670423947251286016 by decide, show ((2 : Nat) ^ 26) ^ 0 = 1 by decide, show (2 : Nat) ^ 26 = 67108864 by decide, show (2 : Nat) ^ 130 = 1361129467683753853853498429727072845824 by decide, show (2 : Nat) ^ 33 = 8589934592 by decide, PQ] at *
    subst e3
    have hX : X = Y % 1361129467683753853853498429727072845824 := by omega
    have hY : Y = V + 5 * o := by omega
    subst hX hY
    have hc : (o = 0 ∧ V < 1361129467683753853853498429727072845819) ∨ (o = 1 ∧ 1361129467683753853853498429727072845819 ≤ V) := by omega
    rcases hc with ⟨rfl, hc⟩ | ⟨rfl, hc⟩
    · rw [Nat.mod_eq_of_lt hc, Nat.mod_eq_of_lt (by omega)]
      omega
    · rw [Nat.mod_eq_sub_mod hc, Nat.mod_eq_sub_mod (show V + 5 * 1 ≥ 1361129467683753853853498429727072845824 by omega), Nat.mod_eq_of_lt (by omega), Nat.mod_eq_of_lt (by omega)]
      omega
  · by_cases e : j = 4
    · subst e; rw [updN_eq]; exact Nat.mod_lt _ (by decide)
    · rw [updN_ne e]
      exact h2 j (by omega)
def msum (q r : Nat → Nat) (i : Nat) : Nat → Nat
  | 0 => 0
  | j + 1 => msum q r i j + (if j ≤ i then q j * r (i - j) else q j * r (5 + i - j) * 5)
theorem msum_cv (q r : Nat → Nat) {i : Nat} (hi : i < 5) : ∀ m, m ≤ 5 → msum q r i m = cv q r 5 m i + 5 * cv q r 5 m (5 + i)
  | 0, _ => by simp [msum, cv]
  | m + 1, hm => by
    simp only [msum, cv]
    rw [msum_cv q r hi m (by omega)]
    unfold cvt
    by_cases h : m ≤ i
    · rw [if_pos h, if_pos ⟨h, by omega⟩, if_neg (by omega)]
      omega
    · rw [if_neg h, if_neg (by omega), if_pos ⟨by omega, by omega⟩]
      generalize q m * r (5 + i - m) = z
      omega
theorem msum_ok (q r : Nat → Nat) : vs (2 ^ 26) (fun i => msum q r i 5) 5 % PQ = vs (2 ^ 26) q 5 * vs (2 ^ 26) r 5 % PQ := by
  have h := vs_cv (B := 2 ^ 26) (x := q) (y := r) (L := 5) 5 10 (by decide)
  have h2 := vs_split (B := 2 ^ 26) (w := cv q r 5 5) (m := 5) 5
  rw [← h, h2, vs_congr (w := fun i => msum q r i 5) (w' := fun i => cv q r 5 5 i + 5 * cv q r 5 5 (5 + i)) (fun i hi => msum_cv q r hi 5 (Nat.le_refl _)), vs_add, vs_mul]
  generalize vs (2 ^ 26) (fun i => cv q r 5 5 i) 5 = a
  generalize vs (2 ^ 26) (fun i => cv q r 5 5 (5 + i)) 5 = b
  rw [show a + (2 ^ 26) ^ 5 * b = a + 5 * b + b * PQ by rw [show ((2 : Nat) ^ 26) ^ 5 = 1361129467683753853853498429727072845824 by decide]; simp only [PQ]; omega, Nat.add_mul_mod_self_right]
theorem mul_lt2 {a b x y : Nat} (ha : a < 2 ^ x) (hb : b < 2 ^ y) : a * b < 2 ^ (x + y) := by
  rw [Nat.pow_add]
  exact Nat.mul_lt_mul'' ha hb
theorem msum_lt {q r : Nat → Nat} (h0 : q 0 < 2 ^ 33 + 2 ^ 26) (h : ∀ j, 0 < j → j < 5 → q j < 2 ^ 27) (hr : ∀ j, j < 5 → r j < 2 ^ 26) (hr4 : r 4 < 2 ^ 20) : (∀ i, i < 4 → msum q r i 5 < 2 ^ 61) ∧ msum q r 4 5 < 2 ^ 56 := by
  have t0 : ∀ k, k < 5 → q 0 * r k < 2 ^ 60 := fun k hk => mul_lt2 (x := 34) (y := 26) (by omega) (hr k hk)
  have t04 : q 0 * r 4 < 2 ^ 54 := mul_lt2 (x := 34) (y := 20) (by omega) hr4
  have t : ∀ j k, 0 < j → j < 5 → k < 5 → q j * r k < 2 ^ 53 := fun j k hj hj2 hk => mul_lt2 (x := 27) (y := 26) (h j hj hj2) (hr k hk)
  refine ⟨fun i hi => ?_, ?_⟩
  · have e : ∀ j, 0 < j → j < 5 → (if j ≤ i then q j * r (i - j) else q j * r (5 + i - j) * 5) < 2 ^ 56 := by
      intro j hj hj2
      by_cases g : j ≤ i
      · rw [if_pos g]
        have := t j (i - j) hj hj2 (by omega)
        omega
      · rw [if_neg g]
        have := t j (5 + i - j) hj hj2 (by omega)
        omega
    have e0 : (if 0 ≤ i then q 0 * r (i - 0) else q 0 * r (5 + i - 0) * 5) < 2 ^ 60 := by
      rw [if_pos (Nat.zero_le _)]
      exact t0 _ (by omega)
    have e1 := e 1 (by decide) (by decide)
    have e2 := e 2 (by decide) (by decide)
    have e3 := e 3 (by decide) (by decide)
    have e4 := e 4 (by decide) (by decide)
    simp only [msum]
    omega
  · have e : ∀ j, 0 < j → j < 5 → (if j ≤ 4 then q j * r (4 - j) else q j * r (5 + 4 - j) * 5) < 2 ^ 53 := by
      intro j hj hj2
      rw [if_pos (by omega)]
      exact t j (4 - j) hj hj2 (by omega)
    have e0 : (if 0 ≤ 4 then q 0 * r (4 - 0) else q 0 * r (5 + 4 - 0) * 5) < 2 ^ 54 := by
      rw [if_pos (Nat.zero_le _)]
      exact t04
    have e1 := e 1 (by decide) (by decide)
    have e2 := e 2 (by decide) (by decide)
    have e3 := e 3 (by decide) (by decide)
    have e4 := e 4 (by decide) (by decide)
    simp only [msum]
    omega
theorem dig_hi {A m j n : Nat} (hj : j < n) : (A + m * 256 ^ n) / 256 ^ j % 256 = A / 256 ^ j % 256 := by
  obtain ⟨d, rfl⟩ : ∃ d, n = j + (d + 1) := ⟨n - j - 1, by omega⟩
  rw [Nat.pow_add, Nat.mul_comm (256 ^ j), ← Nat.mul_assoc, Nat.add_mul_div_right _ _ (Nat.pow_pos (by decide)), Nat.pow_succ, ← Nat.mul_assoc, Nat.add_mul_mod_self_right]
theorem rdT_val {b g : Nat → Nat} {L c : Nat} (hb : ∀ j, j < c → b j < 256) (h1 : 26 * L ≤ 8 * c) (h2 : 8 * c < 26 * (L + 1)) (h : vs 256 b c < (2 ^ 26) ^ L) : vs (2 ^ 26) (rdF b L g c) L = vs 256 b c ∧ ∀ j, j < L → rdF b L g c j < 2 ^ 26 := by
  obtain ⟨q1, q2, q3, q4, q5, q6, q7⟩ := rdS_ok (g := g) (L := L) hb h2 c (Nat.le_refl _)
  unfold rdF
  generalize hX : rdS b L g c = X at *
  have hl : X.2.2.1 = L := by omega
  rw [if_neg (by omega)]
  rw [hl] at q5 q6
  refine ⟨?_, fun j hj => q6 j hj⟩
  have : X.1 = 0 := by
    rcases Nat.eq_zero_or_pos X.1 with z | z
    · exact z
    · exfalso
      have := Nat.mul_le_mul_right ((2 ^ 26) ^ L) z
      rw [Nat.one_mul] at this
      omega
  rw [this] at q5
  omega
theorem c_readT {K : kK} {G : kG} {Q : kO → kG → Prop} {a N l0 L s c : Nat} {b g : Nat → Nat} (ha : G.1 a = some (BA N b)) (hl : G.1 l0 = some (LA L g)) (hs : s + c ≤ N) (hN : N < 2 ^ 20) (hL : L < 100) (hb : ∀ j, j < c → b (s + j) < 256) (h1 : 26 * L ≤ 8 * c) (h2 : 8 * c < 26 * (L + 1)) (h : vs 256 (fun j => b (s + j)) c < (2 ^ 26) ^ L)
    (hq : ∀ U, vs (2 ^ 26) U L = vs 256 (fun j => b (s + j)) c → (∀ j, j < L → U j < 2 ^ 26) → Q (.inl none) (hup G l0 (LA L U))) : C K 0 0 mX5_read [.ref a, .int (nI s), .int (nI c), .ref l0] G Q := by
  obtain ⟨q1, q2⟩ := rdT_val (g := g) (b := fun j => b (s + j)) hb h1 h2 h
  exact c_read ha hl hs hN hL hb h2 (hq _ q1 q2)
theorem c_writeV {K : kK} {G : kG} {Q : kO → kG → Prop} {l0 b L N c : Nat} {x o : Nat → Nat} (hl : G.1 l0 = some (LA L x)) (hb : G.1 b = some (BA N o)) (hcN : c ≤ N) (hN : N < 2 ^ 20) (hL : L < 100) (hx : ∀ j, j < L → x j < 2 ^ 26) (hc : 26 * (L - 1) < 8 * c) (hc2 : 8 * c ≤ 26 * L)
    (hq : ∀ y h, vs 256 y c + h * 256 ^ c = vs (2 ^ 26) x L → (∀ j, j < c → y j < 256) → (∀ j, ¬ j < c → y j = o j) → Q (.inl none) (hup G b (BA N y))) : C K 0 0 mX5_write [.ref l0, .ref b, .int (nI c)] G Q := by
  obtain ⟨q1, q2, q3, q4, q5, q6, q7⟩ := wrS_ok (o := o) hx hc L (Nat.le_refl _)
  refine c_write hl hb hcN hN hL hx hc ?_
  generalize wrS x c o L = X at *
  have e : X.2.2.1 = c := by omega
  rw [e] at q5 q6 q7
  exact hq _ _ q5 q6 q7
