section CWrite
variable {K : kK} {G : kG} {Q : kO → kG → Prop}
/-- bytes of a number h behind a place a -/
def wri (h a : Nat) (o : Nat → Nat) : Nat → Nat → Nat
  | 0 => o
  | j + 1 => updN (wri h a o j) (a + j) (h / 256 ^ j % 256)
theorem wri_ok {h a : Nat} {o : Nat → Nat} (ho : ∀ j, j < a → o j < 256) : ∀ n, vs 256 (wri h a o n) (a + n) + h / 256 ^ n * 256 ^ (a + n) = vs 256 o a + h * 256 ^ a ∧ (∀ j, j < a + n → wri h a o n j < 256) ∧ (∀ j, ¬ j < a + n → wri h a o n j = o j)
  | 0 => ⟨by simp [wri], ho, fun _ _ => rfl⟩
  | n + 1 => by
    obtain ⟨h1, h2, h3⟩ := wri_ok (h := h) ho n
    refine ⟨?_, fun j hj => ?_, fun j hj => ?_⟩
    · rw [← h1]
      show vs 256 (updN (wri h a o n) (a + n) _) (a + n) + updN (wri h a o n) (a + n) (h / 256 ^ n % 256) (a + n) * 256 ^ (a + n) + h / 256 ^ (n + 1) * 256 ^ (a + n + 1) = _
      rw [vs_congr (w' := wri h a o n) (fun j hj => updN_ne (by omega)), updN_eq, Nat.pow_succ 256 n, ← Nat.div_div_eq_div_mul, show (256 : Nat) ^ (a + n + 1) = 256 * 256 ^ (a + n) from Nat.pow_succ', ← Nat.mul_assoc, Nat.add_assoc, ← Nat.add_mul, Nat.mul_comm _ 256, Nat.mod_add_div]
    · show updN (wri h a o n) (a + n) _ j < 256
      by_cases hj2 : j = a + n
      · subst hj2; rw [updN_eq]; exact Nat.mod_lt _ (by decide)
      · rw [updN_ne hj2]; exact h2 j (by omega)
    · show updN (wri h a o n) (a + n) _ j = o j
      rw [updN_ne (by omega)]
      exact h3 j (by omega)
def wrn (t a c : Nat) : Nat := if (t + 26) / 8 ≤ c - a then (t + 26) / 8 else c - a
def wrS (x : Nat → Nat) (c : Nat) (o : Nat → Nat) : Nat → Nat × Nat × Nat × (Nat → Nat)
  | 0 => (0, 0, 0, o)
  | l + 1 => (((wrS x c o l).1 + x l * 2 ^ (wrS x c o l).2.1) / 256 ^ wrn (wrS x c o l).2.1 (wrS x c o l).2.2.1 c, (wrS x c o l).2.1 + 26 - 8 * wrn (wrS x c o l).2.1 (wrS x c o l).2.2.1 c, (wrS x c o l).2.2.1 + wrn (wrS x c o l).2.1 (wrS x c o l).2.2.1 c, wri ((wrS x c o l).1 + x l * 2 ^ (wrS x c o l).2.1) (wrS x c o l).2.2.1 (wrS x c o l).2.2.2 (wrn (wrS x c o l).2.1 (wrS x c o l).2.2.1 c))
theorem wrS_s (x : Nat → Nat) (c : Nat) (o : Nat → Nat) (l : Nat) : wrS x c o (l + 1) = (((wrS x c o l).1 + x l * 2 ^ (wrS x c o l).2.1) / 256 ^ wrn (wrS x c o l).2.1 (wrS x c o l).2.2.1 c, (wrS x c o l).2.1 + 26 - 8 * wrn (wrS x c o l).2.1 (wrS x c o l).2.2.1 c, (wrS x c o l).2.2.1 + wrn (wrS x c o l).2.1 (wrS x c o l).2.2.1 c, wri ((wrS x c o l).1 + x l * 2 ^ (wrS x c o l).2.1) (wrS x c o l).2.2.1 (wrS x c o l).2.2.2 (wrn (wrS x c o l).2.1 (wrS x c o l).2.2.1 c)) := rfl
theorem wrS_ok {x o : Nat → Nat} {L c : Nat} (hx : ∀ j, j < L → x j < 2 ^ 26) (hc : 26 * (L - 1) < 8 * c) : ∀ l, l ≤ L →
    (wrS x c o l).1 < 2 ^ (wrS x c o l).2.1 ∧ 8 * (wrS x c o l).2.2.1 + (wrS x c o l).2.1 = 26 * l ∧ (wrS x c o l).2.2.1 ≤ c ∧ ((wrS x c o l).2.1 < 8 ∨ (wrS x c o l).2.2.1 = c) ∧
    vs 256 (wrS x c o l).2.2.2 (wrS x c o l).2.2.1 + (wrS x c o l).1 * 256 ^ (wrS x c o l).2.2.1 = vs (2 ^ 26) x l ∧ (∀ j, j < (wrS x c o l).2.2.1 → (wrS x c o l).2.2.2 j < 256) ∧ (∀ j, ¬ j < (wrS x c o l).2.2.1 → (wrS x c o l).2.2.2 j = o j)
  | 0, _ => ⟨by simp [wrS], by simp [wrS], by simp [wrS], by simp [wrS], by simp [wrS, vs], fun j hj => by simp [wrS] at hj, fun j _ => rfl⟩
  | l + 1, hl => by
    obtain ⟨h1, h2, h3, h4, h5, h6, h7⟩ := wrS_ok (o := o) hx hc l (by omega)
    rw [wrS_s]
    generalize hh : (wrS x c o l).1 = h at *
    generalize ht : (wrS x c o l).2.1 = t at *
    generalize ha : (wrS x c o l).2.2.1 = a at *
    generalize ho : (wrS x c o l).2.2.2 = q at *
    have hac : a < c := by omega
    have ht8 : t < 8 := by omega
    have hxl := hx l (by omega)
    have hn : wrn t a c ≤ (t + 26) / 8 ∧ wrn t a c ≤ c - a ∧ (wrn t a c = (t + 26) / 8 ∨ wrn t a c = c - a) := by
      unfold wrn
      split
      · exact ⟨Nat.le_refl _, by assumption, Or.inl rfl⟩
      · exact ⟨by omega, Nat.le_refl _, Or.inr rfl⟩
    generalize wrn t a c = k at *
    have hlt : h + x l * 2 ^ t < 2 ^ (t + 26) := by
      have q1 : x l * 2 ^ t ≤ (2 ^ 26 - 1) * 2 ^ t := Nat.mul_le_mul_right _ (by omega)
      have q2 : (2 ^ 26 - 1) * 2 ^ t + 2 ^ t = 2 ^ (t + 26) := by
        rw [← Nat.succ_mul, Nat.pow_add, Nat.mul_comm]
      omega
    obtain ⟨w1, w2, w3⟩ := wri_ok (h := h + x l * 2 ^ t) h6 k
    have hpw : 256 ^ a * 2 ^ t = (2 ^ 26) ^ l := by
      rw [← Nat.pow_mul, ← h2, Nat.pow_add, Nat.pow_mul]
    refine ⟨?_, show 8 * (a + k) + (t + 26 - 8 * k) = 26 * (l + 1) by omega, show a + k ≤ c by omega, show t + 26 - 8 * k < 8 ∨ a + k = c by omega, ?_, w2, fun j hj => (w3 j hj).trans (h7 j (fun z => hj (Nat.lt_of_lt_of_le z (Nat.le_add_right a k))))⟩
    · show (h + x l * 2 ^ t) / 256 ^ k < 2 ^ (t + 26 - 8 * k)
      rw [Nat.div_lt_iff_lt_mul (Nat.pow_pos (by decide)), show (256 : Nat) ^ k = 2 ^ (8 * k) by rw [Nat.pow_mul], ← Nat.pow_add, show t + 26 - 8 * k + 8 * k = t + 26 by omega]
      exact hlt
    · show vs 256 (wri (h + x l * 2 ^ t) a q k) (a + k) + (h + x l * 2 ^ t) / 256 ^ k * 256 ^ (a + k) = vs (2 ^ 26) x l + x l * (2 ^ 26) ^ l
      rw [w1, ← h5, ← hpw, Nat.add_mul, Nat.mul_assoc (x l), Nat.mul_comm (2 ^ t)]
      omega
set_option maxHeartbeats 4000000 in
theorem c_write {l0 b L N c : Nat} {x o : Nat → Nat} (hl : G.1 l0 = some (LA L x)) (hb : G.1 b = some (BA N o)) (hcN : c ≤ N) (hN : N < 2 ^ 20) (hL : L < 100) (hx : ∀ j, j < L → x j < 2 ^ 26) (hc : 26 * (L - 1) < 8 * c)
    (hq : Q (.inl none) (hup G b (BA N (wrS x c o L).2.2.2))) : C K 0 0 mX5_write [.ref l0, .ref b, .int (nI c)] G Q := by
  refine C_of okX5_write (Nat.le_of_ble_eq_true rfl) ?_
  have hlb : l0 ≠ b := by rintro rfl; rw [hl] at hb; cases hb
  refine V_lconst (v := lN 0) rfl (by decide) ?_
  refine V_lstore_n rfl (by decide) ?_
  refine V_iconst (v := 0) rfl (by decide) ?_
  refine V_istore rfl (by decide) ?_
  refine V_iconst (v := 0) rfl (by decide) ?_
  refine V_istore rfl (by decide) ?_
  refine V_iconst (v := 0) rfl (by decide) ?_
  refine V_istore rfl (by decide) ?_
  refine V_loop L (fun i lc G' => lc 0 = some (.ref l0) ∧ lc 1 = some (.ref b) ∧ lc 2 = some (.int (nI c)) ∧ lc 3 = some (.long (lN (wrS x c o i).1)) ∧ lc 4 = some kmk ∧ lc 5 = some (.int (nI (wrS x c o i).2.1)) ∧ lc 6 = some (.int (nI (wrS x c o i).2.2.1)) ∧ lc 7 = some (.int (nI i)) ∧ G' = hup G b (BA N (wrS x c o i).2.2.2)) ?_ ?_ 0 _ _ (Nat.zero_le _) ⟨rfl, rfl, rfl, rfl, rfl, rfl, rfl, rfl, (hup_same hb).symm⟩
  · rintro i lc G' hi ⟨y0, y1, y2, y3, y4, y5, y6, y7, rfl⟩ ih
    obtain ⟨h1, h2, h3, h4, -, -, -⟩ := wrS_ok (o := o) hx hc i (by omega)
    have hstep := wrS_s x c o i
    generalize hh : (wrS x c o i).1 = h at *
    generalize ht : (wrS x c o i).2.1 = t at *
    generalize haa : (wrS x c o i).2.2.1 = a at *
    generalize hoo : (wrS x c o i).2.2.2 = q at *
    have hac : a < c := by omega
    have ht8 : t < 8 := by omega
    have hxl := hx i hi
    have hp8 : 2 ^ t < 2 ^ 8 := Nat.pow_lt_pow_right (by decide) ht8
    have hlt : h + x i * 2 ^ t < 2 ^ 60 := by
      have q1 : x i * 2 ^ t ≤ 2 ^ 26 * 2 ^ 8 := Nat.mul_le_mul (by omega) (by omega)
      omega
    have hn : wrn t a c ≤ (t + 26) / 8 ∧ wrn t a c ≤ c - a ∧ (wrn t a c = (t + 26) / 8 ∨ wrn t a c = c - a) := by
      unfold wrn
      split
      · exact ⟨Nat.le_refl _, by assumption, Or.inl rfl⟩
      · exact ⟨by omega, Nat.le_refl _, Or.inr rfl⟩
    generalize wrn t a c = k at *
    refine V_iload rfl (by first | rfl | assumption) ?_
    refine V_aload_n rfl (by first | rfl | assumption) ?_
    refine V_alen rfl (by repeat (first | exact hup_eq | assumption | refine Eq.trans (hup_ne (by first | assumption | exact Ne.symm (by assumption) | decide)) ?_)) (by decide) ?_
    refine V_icmp_ge rfl (fun h => absurd h (nI_ge hi (by omega))) (fun _ => ?_)
    refine V_lload_n rfl (by first | rfl | assumption) (by first | rfl | assumption) ?_
    refine V_aload_n rfl (by first | rfl | assumption) ?_
    refine V_iload rfl (by first | rfl | assumption) ?_
    refine V_laldN rfl (by repeat (first | exact hup_eq | assumption | refine Eq.trans (hup_ne (by first | assumption | exact Ne.symm (by assumption) | decide)) ?_)) rfl hi (by omega) ?_
    refine V_iload rfl (by first | rfl | assumption) ?_
    refine V_lshl rfl ?_
    rw [wb_shl _ (by omega)]
    refine V_lor rfl ?_
    rw [g_or' (k := t) rfl h1 (by omega)]
    refine V_lstore_n rfl (by decide) ?_
    refine V_iinc (v := nI (t + 26)) rfl (by first | rfl | assumption) (nI_add t 26) (by decide) ?_
    generalize hH : h + x i * 2 ^ t = H at *
    refine V_loop k (fun j lc G' => lc 0 = some (.ref l0) ∧ lc 1 = some (.ref b) ∧ lc 2 = some (.int (nI c)) ∧ lc 3 = some (.long (lN (H / 256 ^ j))) ∧ lc 4 = some kmk ∧ lc 5 = some (.int (nI (t + 26 - 8 * j))) ∧ lc 6 = some (.int (nI (a + j))) ∧ lc 7 = some (.int (nI i)) ∧ G' = hup G b (BA N (wri H a q j))) ?_ ?_ 0 _ _ (Nat.zero_le _) ⟨y0, y1, y2, ?_, rfl, rfl, y6, y7, rfl⟩
    · clear y0 y1 y2 y3 y4 y5 y6 y7 lc
      rintro j lc G' hj ⟨y0, y1, y2, y3, y4, y5, y6, y7, rfl⟩ ih2
      have hHj : H / 256 ^ j < 2 ^ 60 := Nat.lt_of_le_of_lt (Nat.div_le_self _ _) hlt
      refine V_iload rfl (by first | rfl | assumption) ?_
      refine V_bipush (v := 8) rfl (by decide) ?_
      refine V_icmp_lt rfl (fun h => absurd h (nI_nlt (b := 8) (by omega) (by omega))) (fun _ => ?_)
      refine V_iload rfl (by first | rfl | assumption) ?_
      refine V_iload_n rfl (by first | rfl | assumption) ?_
      refine V_icmp_ge rfl (fun h => absurd h (nI_ge (by omega) (by omega))) (fun _ => ?_)
      refine V_aload_n rfl (by first | rfl | assumption) ?_
      refine V_iload rfl (by first | rfl | assumption) ?_
      refine V_lload_n rfl (by first | rfl | assumption) (by first | rfl | assumption) ?_
      refine V_l2i rfl ?_
      rw [lN_i]
      refine V_sipush (v := 255) rfl (by decide) ?_
      refine V_iand rfl ?_
      rw [mask255]
      refine V_iastN rfl hup_eq rfl (by omega) (by omega) ?_
      rw [hup_hup]
      refine V_lload_n rfl (by first | rfl | assumption) (by first | rfl | assumption) ?_
      refine V_bipush (v := 8) rfl (by decide) ?_
      refine V_lshrN 8 rfl (by decide) (by omega) ?_
      refine V_lstore_n rfl (by decide) ?_
      refine V_iinc (v := nI (a + (j + 1))) rfl (by first | rfl | assumption) (nI_add (a + j) 1) (by decide) ?_
      refine V_iinc (v := nI (t + 26 - 8 * j - 8)) rfl (by first | rfl | assumption) (nI_dec 8 (by decide) (by omega)) (by decide) ?_
      refine V_goto rfl ?_
      refine ih2 _ _ ⟨y0, y1, y2, ?_, rfl, ?_, rfl, y7, rfl⟩
      · show some (Value.long (lN (H / 256 ^ j / 2 ^ 8))) = _
        rw [show (2 : Nat) ^ 8 = 256 by decide, Nat.div_div_eq_div_mul, ← Nat.pow_succ]
      · show some (Value.int (nI (t + 26 - 8 * j - 8))) = _
        rw [show t + 26 - 8 * j - 8 = t + 26 - 8 * (j + 1) by omega]
    · clear y0 y1 y2 y3 y4 y5 y6 y7 lc
      rintro lc G' ⟨y0, y1, y2, y3, y4, y5, y6, y7, rfl⟩
      have fin : ∀ lc : kLo, lc 0 = some (.ref l0) → lc 1 = some (.ref b) → lc 2 = some (.int (nI c)) → lc 3 = some (.long (lN (H / 256 ^ k))) → lc 4 = some kmk → lc 5 = some (.int (nI (t + 26 - 8 * k))) → lc 6 = some (.int (nI (a + k))) → lc 7 = some (.int (nI i)) → V K 0 0 mX5_write 68 lc [] (hup G b (BA N (wri H a q k))) Q := by
        intro lc y0 y1 y2 y3 y4 y5 y6 y7
        refine V_iinc (v := nI (i + 1)) rfl (by first | rfl | assumption) (nI_add i 1) (by decide) ?_
        refine V_goto rfl ?_
        refine ih _ _ ⟨y0, y1, y2, ?_, y4, ?_, ?_, rfl, ?_⟩ <;> (try rw [hstep]) <;> first | rfl | assumption
      refine V_iload rfl (by first | rfl | assumption) ?_
      refine V_bipush (v := 8) rfl (by decide) ?_
      refine V_icmp_lt rfl (fun h => ?_) (fun h => ?_)
      · exact fin _ y0 y1 y2 y3 y4 y5 y6 y7
      · have h8 : 8 ≤ t + 26 - 8 * k := Nat.not_lt.mp (fun q => h (nI_lt (b := 8) q (by decide)))
        refine V_iload rfl (by first | rfl | assumption) ?_
        refine V_iload_n rfl (by first | rfl | assumption) ?_
        refine V_icmp_ge rfl (fun h => ?_) (fun h => absurd (nI_le (by omega) (by omega)) h)
        exact fin _ y0 y1 y2 y3 y4 y5 y6 y7
    · show some (Value.long (lN H)) = _
      simp
  · rintro lc G' ⟨y0, y1, y2, y3, y4, y5, y6, y7, rfl⟩
    refine V_iload rfl (by first | rfl | assumption) ?_
    refine V_aload_n rfl (by first | rfl | assumption) ?_
    refine V_alen rfl (by repeat (first | exact hup_eq | assumption | refine Eq.trans (hup_ne (by first | assumption | exact Ne.symm (by assumption) | decide)) ?_)) (by decide) ?_
    refine V_icmp_ge rfl (fun _ => ?_) (fun h => absurd (nI_le (Nat.le_refl L) (by omega)) h)
    exact V_vret rfl rfl hq
end CWrite
