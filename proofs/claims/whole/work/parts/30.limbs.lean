section CLimbs
variable {K : kK} {bc bs : Nat} {M : kM} {pc n t : Nat} {lc : kLo} {st : List Value} {G : kG} {Q : kO → kG → Prop}
/-- a row of ints that are natural numbers -/
abbrev BA (N : Nat) (b : Nat → Nat) : kE := .inl (0, N, .inl (fun j => nI (b j)))
theorem updI_N (g : Nat → Nat) (k x : Nat) : upd (fun j => nI (g j)) k (nI x) = fun j => nI (updN g k x j) := by
  funext j
  simp only [upd, updN]
  split <;> rfl
theorem V_ialdN {a N j : Nat} {b : Nat → Nat} {i : Int32} (h : kf M pc = some (.iaload, n, t)) (ha : G.1 a = some (BA N b)) (hi : i = nI j) (hj : j < N) (hN : N < 2 ^ 31) (kk : V K bc bs M n lc (.int (nI (b j)) :: st) G Q) : V K bc bs M pc lc (.int i :: .ref a :: st) G Q := V_ialdJ h ha hi hj hN kk
theorem V_iastN {a N j x : Nat} {b : Nat → Nat} {i : Int32} (h : kf M pc = some (.iastore, n, t)) (ha : G.1 a = some (BA N b)) (hi : i = nI j) (hj : j < N) (hN : N < 2 ^ 31) (kk : V K bc bs M n lc st (hup G a (BA N (updN b j x))) Q) : V K bc bs M pc lc (.int (nI x) :: .int i :: .ref a :: st) G Q := by
  refine V_iastJ h ha hi hj hN ?_
  rw [updI_N]
  exact kk
theorem nI_dec {a : Nat} (k : Nat) {z : Int32} (hz : nI k + z = 0) (h : k ≤ a) : nI a + z = nI (a - k) := by
  obtain ⟨j, rfl⟩ : ∃ j, a = j + k := ⟨a - k, by omega⟩
  rw [← nI_add, Int32.add_assoc, hz, Int32.add_zero, Nat.add_sub_cancel]
theorem mask255 (m : Nat) : nI m &&& 255 = nI (m % 2 ^ 8) := by
  rw [pk_and (nI m) 8 (by decide)]
  congr 1
  show (BitVec.ofNat 32 m).toNat % _ = _
  rw [BitVec.toNat_ofNat, Nat.mod_mod_of_dvd _ (by decide)]
/-! a number out of its bytes: held bits, how many, how many limbs, the limbs -/
def rdS (b : Nat → Nat) (L : Nat) (g : Nat → Nat) : Nat → Nat × Nat × Nat × (Nat → Nat)
  | 0 => (0, 0, 0, g)
  | i + 1 =>
    if 26 ≤ (rdS b L g i).2.1 + 8 ∧ (rdS b L g i).2.2.1 < L then
      (((rdS b L g i).1 + b i * 2 ^ (rdS b L g i).2.1) / 2 ^ 26, (rdS b L g i).2.1 + 8 - 26, (rdS b L g i).2.2.1 + 1, updN (rdS b L g i).2.2.2 (rdS b L g i).2.2.1 (((rdS b L g i).1 + b i * 2 ^ (rdS b L g i).2.1) % 2 ^ 26))
    else ((rdS b L g i).1 + b i * 2 ^ (rdS b L g i).2.1, (rdS b L g i).2.1 + 8, (rdS b L g i).2.2.1, (rdS b L g i).2.2.2)
theorem rdS_s (b : Nat → Nat) (L : Nat) (g : Nat → Nat) (i : Nat) : rdS b L g (i + 1) = if 26 ≤ (rdS b L g i).2.1 + 8 ∧ (rdS b L g i).2.2.1 < L then (((rdS b L g i).1 + b i * 2 ^ (rdS b L g i).2.1) / 2 ^ 26, (rdS b L g i).2.1 + 8 - 26, (rdS b L g i).2.2.1 + 1, updN (rdS b L g i).2.2.2 (rdS b L g i).2.2.1 (((rdS b L g i).1 + b i * 2 ^ (rdS b L g i).2.1) % 2 ^ 26)) else ((rdS b L g i).1 + b i * 2 ^ (rdS b L g i).2.1, (rdS b L g i).2.1 + 8, (rdS b L g i).2.2.1, (rdS b L g i).2.2.2) := rfl
theorem rdS_ok {b g : Nat → Nat} {L c : Nat} (hb : ∀ j, j < c → b j < 256) (hc : 8 * c < 26 * (L + 1)) : ∀ i, i ≤ c →
    (rdS b L g i).1 < 2 ^ (rdS b L g i).2.1 ∧ (rdS b L g i).2.1 < 26 ∧ (rdS b L g i).2.2.1 ≤ L ∧ 8 * i = 26 * (rdS b L g i).2.2.1 + (rdS b L g i).2.1 ∧
    vs (2 ^ 26) (rdS b L g i).2.2.2 (rdS b L g i).2.2.1 + (rdS b L g i).1 * (2 ^ 26) ^ (rdS b L g i).2.2.1 = vs 256 b i ∧ (∀ j, j < (rdS b L g i).2.2.1 → (rdS b L g i).2.2.2 j < 2 ^ 26) ∧ (∀ j, ¬ j < (rdS b L g i).2.2.1 → (rdS b L g i).2.2.2 j = g j)
  | 0, _ => ⟨by simp [rdS], by simp [rdS], by simp [rdS], by simp [rdS], by simp [rdS, vs], fun j hj => by simp [rdS] at hj, fun j _ => rfl⟩
  | i + 1, hi => by
    obtain ⟨h1, h2, h3, h4, h5, h6, h7⟩ := rdS_ok (g := g) hb hc i (by omega)
    generalize hh : (rdS b L g i).1 = h at *
    generalize ht : (rdS b L g i).2.1 = t at *
    generalize hl : (rdS b L g i).2.2.1 = l at *
    generalize ha : (rdS b L g i).2.2.2 = a at *
    have hbi := hb i (by omega)
    have hp : 2 ^ (t + 8) = 256 * 2 ^ t := by rw [Nat.pow_add, Nat.mul_comm]
    have hlt : h + b i * 2 ^ t < 2 ^ (t + 8) := by
      have q1 : b i * 2 ^ t ≤ 255 * 2 ^ t := Nat.mul_le_mul_right _ (by omega)
      rw [hp]
      omega
    have hpw : (2 ^ 26) ^ l * 2 ^ t = 256 ^ i := by
      rw [← Nat.pow_mul, ← Nat.pow_add, ← h4, Nat.pow_mul]
    have hval : vs (2 ^ 26) a l + (h + b i * 2 ^ t) * (2 ^ 26) ^ l = vs 256 b (i + 1) := by
      simp only [vs]
      rw [← h5, ← hpw, Nat.add_mul, Nat.mul_assoc (b i), Nat.mul_comm (2 ^ t)]
      omega
    by_cases hx : 26 ≤ t + 8 ∧ l < L
    · have e : rdS b L g (i + 1) = ((h + b i * 2 ^ t) / 2 ^ 26, t + 8 - 26, l + 1, updN a l ((h + b i * 2 ^ t) % 2 ^ 26)) := by
        simp only [rdS, hh, ht, hl, ha]
        rw [if_pos hx]
      rw [e]
      have hp2 : 2 ^ (t + 8) = 2 ^ (t + 8 - 26) * 2 ^ 26 := by rw [← Nat.pow_add]; congr 1; omega
      refine ⟨?_, show t + 8 - 26 < 26 by omega, show l + 1 ≤ L by omega, show 8 * (i + 1) = 26 * (l + 1) + (t + 8 - 26) by omega, ?_, fun j hj => ?_, fun j hj => ?_⟩
      · show (h + b i * 2 ^ t) / 2 ^ 26 < 2 ^ (t + 8 - 26)
        rw [Nat.div_lt_iff_lt_mul (by decide), ← hp2]
        exact hlt
      · rw [← hval]
        show vs (2 ^ 26) (updN a l _) l + updN a l _ l * (2 ^ 26) ^ l + (h + b i * 2 ^ t) / 2 ^ 26 * (2 ^ 26) ^ (l + 1) = _
        rw [vs_congr (w' := a) (fun j hj => updN_ne (by omega)), updN_eq, b26s, ← Nat.mul_assoc, Nat.add_assoc, ← Nat.add_mul, Nat.mul_comm _ (2 ^ 26), Nat.mod_add_div]
      · show updN a l _ j < 2 ^ 26
        by_cases hj2 : j = l
        · subst hj2; rw [updN_eq]; exact Nat.mod_lt _ (by decide)
        · rw [updN_ne hj2]; exact h6 j (by have : j < l + 1 := hj; omega)
      · show updN a l _ j = g j
        have : ¬ j < l + 1 := hj
        rw [updN_ne (by omega)]
        exact h7 j (by omega)
    · have e : rdS b L g (i + 1) = (h + b i * 2 ^ t, t + 8, l, a) := by
        simp only [rdS, hh, ht, hl, ha]
        rw [if_neg hx]
      rw [e]
      exact ⟨hlt, by show t + 8 < 26; omega, h3, by show 8 * (i + 1) = 26 * l + (t + 8); omega, hval, h6, h7⟩
def rdF (b : Nat → Nat) (L : Nat) (g : Nat → Nat) (c : Nat) : Nat → Nat := if (rdS b L g c).2.2.1 < L then updN (rdS b L g c).2.2.2 (rdS b L g c).2.2.1 (rdS b L g c).1 else (rdS b L g c).2.2.2
set_option maxHeartbeats 4000000 in
theorem c_read {a N l0 L s c : Nat} {b g : Nat → Nat} (ha : G.1 a = some (BA N b)) (hl : G.1 l0 = some (LA L g)) (hs : s + c ≤ N) (hN : N < 2 ^ 20) (hL : L < 100) (hb : ∀ j, j < c → b (s + j) < 256) (hc : 8 * c < 26 * (L + 1))
    (hq : Q (.inl none) (hup G l0 (LA L (rdF (fun j => b (s + j)) L g c)))) : C K 0 0 mX5_read [.ref a, .int (nI s), .int (nI c), .ref l0] G Q := by
  refine C_of okX5_read (Nat.le_of_ble_eq_true rfl) ?_
  have hal : a ≠ l0 := by rintro rfl; rw [ha] at hl; cases hl
  obtain ⟨B, hB⟩ : ∃ B : Nat → Nat, B = fun j => b (s + j) := ⟨_, rfl⟩
  have hb' : ∀ j, j < c → B j < 256 := fun j hj => by rw [hB]; exact hb j hj
  rw [← hB] at hq
  refine V_lconst (v := lN 0) rfl (by decide) ?_
  refine V_lstore rfl (by decide) ?_
  refine V_iconst (v := 0) rfl (by decide) ?_
  refine V_istore rfl (by decide) ?_
  refine V_iconst (v := 0) rfl (by decide) ?_
  refine V_istore rfl (by decide) ?_
  refine V_iload_n rfl (by first | rfl | assumption) ?_
  refine V_istore rfl (by decide) ?_
  refine V_loop c (fun i lc G' => lc 0 = some (.ref a) ∧ lc 1 = some (.int (nI s)) ∧ lc 2 = some (.int (nI c)) ∧ lc 3 = some (.ref l0) ∧ lc 4 = some (.long (lN (rdS B L g i).1)) ∧ lc 5 = some kmk ∧ lc 6 = some (.int (nI (rdS B L g i).2.1)) ∧ lc 7 = some (.int (nI (rdS B L g i).2.2.1)) ∧ lc 8 = some (.int (nI (s + i))) ∧ G' = hup G l0 (LA L (rdS B L g i).2.2.2)) ?_ ?_ 0 _ _ (Nat.zero_le _) ⟨rfl, rfl, rfl, rfl, rfl, rfl, rfl, rfl, rfl, (hup_same hl).symm⟩
  · rintro i lc G' hi ⟨y0, y1, y2, y3, y4, y5, y6, y7, y8, rfl⟩ ih
    obtain ⟨h1, h2, h3, h4, -, -, -⟩ := rdS_ok (g := g) hb' hc i (by omega)
    have hstep := rdS_s B L g i
    generalize hh : (rdS B L g i).1 = h at *
    generalize ht : (rdS B L g i).2.1 = t at *
    generalize hll : (rdS B L g i).2.2.1 = l at *
    generalize haa : (rdS B L g i).2.2.2 = a at *
    have hbi := hb' i hi
    have hp26 : 2 ^ t < 2 ^ 26 := Nat.pow_lt_pow_right (by decide) h2
    have hlt : h + B i * 2 ^ t < 2 ^ 60 := by
      have q1 : B i * 2 ^ t ≤ 256 * 2 ^ 26 := Nat.mul_le_mul (by omega) (Nat.le_of_lt hp26)
      omega
    refine V_iload rfl (by first | rfl | assumption) ?_
    refine V_iload_n rfl (by first | rfl | assumption) ?_
    refine V_iload_n rfl (by first | rfl | assumption) ?_
    refine V_iadd rfl ?_
    refine V_icmp_ge rfl (fun h => absurd h (by rw [nI_add]; exact nI_ge (by omega) (by omega))) (fun _ => ?_)
    refine V_lload rfl (by first | rfl | assumption) (by first | rfl | assumption) ?_
    refine V_aload_n rfl (by first | rfl | assumption) ?_
    refine V_iload rfl (by first | rfl | assumption) ?_
    refine V_ialdN (b := b) rfl (by repeat (first | exact hup_eq | assumption | refine Eq.trans (hup_ne (by first | assumption | exact Ne.symm (by assumption) | decide)) ?_)) rfl (by omega) (by omega) ?_
    rw [show b (s + i) = B i by rw [hB]]
    refine V_i2l rfl ?_
    rw [nI_l (by omega)]
    refine V_iload rfl (by first | rfl | assumption) ?_
    refine V_lshl rfl ?_
    rw [wb_shl _ (by omega)]
    refine V_lor rfl ?_
    rw [g_or' (k := t) rfl h1 (by omega)]
    refine V_lstore rfl (by decide) ?_
    refine V_iinc (v := nI (t + 8)) rfl (by first | rfl | assumption) (nI_add t 8) (by decide) ?_
    refine V_iload rfl (by first | rfl | assumption) ?_
    refine V_bipush (v := 26) rfl (by decide) ?_
    refine V_icmp_lt rfl (fun hx => ?_) (fun hx => ?_)
    · have hx' : ¬ (26 ≤ t + 8 ∧ l < L) := fun q => absurd hx (nI_nlt (b := 26) q.1 (by omega))
      rw [if_neg hx'] at hstep
      refine V_iinc (v := nI (s + (i + 1))) rfl (by first | rfl | assumption) (nI_add (s + i) 1) (by decide) ?_
      refine V_goto rfl ?_
      refine ih _ _ ⟨y0, y1, y2, y3, ?_, ?_, ?_, ?_, ?_, ?_⟩ <;> (try rw [hstep]) <;> first | rfl | assumption
    · have hx1 : 26 ≤ t + 8 := Nat.not_lt.mp (fun q => hx (nI_lt (b := 26) q (by decide)))
      refine V_iload rfl (by first | rfl | assumption) ?_
      refine V_aload_n rfl (by first | rfl | assumption) ?_
      refine V_alen rfl (by repeat (first | exact hup_eq | assumption | refine Eq.trans (hup_ne (by first | assumption | exact Ne.symm (by assumption) | decide)) ?_)) (by decide) ?_
      refine V_icmp_ge rfl (fun hy => ?_) (fun hy => ?_)
      · have hx' : ¬ (26 ≤ t + 8 ∧ l < L) := fun q => absurd hy (nI_ge q.2 (by omega))
        rw [if_neg hx'] at hstep
        refine V_iinc (v := nI (s + (i + 1))) rfl (by first | rfl | assumption) (nI_add (s + i) 1) (by decide) ?_
        refine V_goto rfl ?_
        refine ih _ _ ⟨y0, y1, y2, y3, ?_, ?_, ?_, ?_, ?_, ?_⟩ <;> (try rw [hstep]) <;> first | rfl | assumption
      · have hlL : l < L := Nat.not_le.mp (fun q => hy (nI_le q (by omega)))
        rw [if_pos ⟨hx1, hlL⟩] at hstep
        refine V_aload_n rfl (by first | rfl | assumption) ?_
        refine V_iload rfl (by first | rfl | assumption) ?_
        refine V_lload rfl (by first | rfl | assumption) (by first | rfl | assumption) ?_
        refine V_ldc2 (v := lN 67108863) rfl kc_X5_9 ?_
        refine V_landN 26 rfl (by decide) (by decide) (by omega) ?_
        refine V_lastN rfl hup_eq rfl hlL (by omega) ?_
        rw [hup_hup]
        refine V_iinc (v := nI (l + 1)) rfl (by first | rfl | assumption) (nI_add l 1) (by decide) ?_
        refine V_lload rfl (by first | rfl | assumption) (by first | rfl | assumption) ?_
        refine V_bipush (v := 26) rfl (by decide) ?_
        refine V_lshrN 26 rfl (by decide) (by omega) ?_
        refine V_lstore rfl (by decide) ?_
        refine V_iinc (v := nI (t + 8 - 26)) rfl (by first | rfl | assumption) (nI_dec 26 (by decide) hx1) (by decide) ?_
        refine V_iinc (v := nI (s + (i + 1))) rfl (by first | rfl | assumption) (nI_add (s + i) 1) (by decide) ?_
        refine V_goto rfl ?_
        refine ih _ _ ⟨y0, y1, y2, y3, ?_, ?_, ?_, ?_, ?_, ?_⟩ <;> (try rw [hstep]) <;> first | rfl | assumption
  · rintro lc G' ⟨y0, y1, y2, y3, y4, y5, y6, y7, y8, rfl⟩
    obtain ⟨h1, h2, h3, h4, -, -, -⟩ := rdS_ok (g := g) hb' hc c (Nat.le_refl c)
    refine V_iload rfl (by first | rfl | assumption) ?_
    refine V_iload_n rfl (by first | rfl | assumption) ?_
    refine V_iload_n rfl (by first | rfl | assumption) ?_
    refine V_iadd rfl ?_
    refine V_icmp_ge rfl (fun _ => ?_) (fun h => absurd (by rw [nI_add]; exact nI_le (Nat.le_refl _) (by omega)) h)
    refine V_iload rfl (by first | rfl | assumption) ?_
    refine V_aload_n rfl (by first | rfl | assumption) ?_
    refine V_alen rfl (by repeat (first | exact hup_eq | assumption | refine Eq.trans (hup_ne (by first | assumption | exact Ne.symm (by assumption) | decide)) ?_)) (by decide) ?_
    refine V_icmp_ge rfl (fun hy => ?_) (fun hy => ?_)
    · have hn : ¬ (rdS B L g c).2.2.1 < L := fun q => absurd hy (nI_ge q (by omega))
      unfold rdF at hq
      rw [if_neg hn] at hq
      exact V_vret rfl rfl hq
    · have hlL : (rdS B L g c).2.2.1 < L := Nat.not_le.mp (fun q => hy (nI_le q (by omega)))
      unfold rdF at hq
      rw [if_pos hlL] at hq
      refine V_aload_n rfl (by first | rfl | assumption) ?_
      refine V_iload rfl (by first | rfl | assumption) ?_
      refine V_lload rfl (by first | rfl | assumption) (by first | rfl | assumption) ?_
      refine V_lastN rfl hup_eq rfl hlL (by omega) ?_
      rw [hup_hup]
      exact V_vret rfl rfl hq
set_option maxHeartbeats 4000000 in
theorem c_readS {q N l0 L s c : Nat} {b g : Nat → Nat} (ha : kSX K q = some (N, fun j => nI (b j))) (hl : G.1 l0 = some (LA L g)) (hs : s + c ≤ N) (hN : N < 2 ^ 20) (hL : L < 100) (hb : ∀ j, j < c → b (s + j) < 256) (hc : 8 * c < 26 * (L + 1))
    (hq : Q (.inl none) (hup G l0 (LA L (rdF (fun j => b (s + j)) L g c)))) : C K 0 0 mX5_read [.ref (1000000 + q), .int (nI s), .int (nI c), .ref l0] G Q := by
  refine C_of okX5_read (Nat.le_of_ble_eq_true rfl) ?_
  obtain ⟨B, hB⟩ : ∃ B : Nat → Nat, B = fun j => b (s + j) := ⟨_, rfl⟩
  have hb' : ∀ j, j < c → B j < 256 := fun j hj => by rw [hB]; exact hb j hj
  rw [← hB] at hq
  refine V_lconst (v := lN 0) rfl (by decide) ?_
  refine V_lstore rfl (by decide) ?_
  refine V_iconst (v := 0) rfl (by decide) ?_
  refine V_istore rfl (by decide) ?_
  refine V_iconst (v := 0) rfl (by decide) ?_
  refine V_istore rfl (by decide) ?_
  refine V_iload_n rfl (by first | rfl | assumption) ?_
  refine V_istore rfl (by decide) ?_
  refine V_loop c (fun i lc G' => lc 0 = some (.ref (1000000 + q)) ∧ lc 1 = some (.int (nI s)) ∧ lc 2 = some (.int (nI c)) ∧ lc 3 = some (.ref l0) ∧ lc 4 = some (.long (lN (rdS B L g i).1)) ∧ lc 5 = some kmk ∧ lc 6 = some (.int (nI (rdS B L g i).2.1)) ∧ lc 7 = some (.int (nI (rdS B L g i).2.2.1)) ∧ lc 8 = some (.int (nI (s + i))) ∧ G' = hup G l0 (LA L (rdS B L g i).2.2.2)) ?_ ?_ 0 _ _ (Nat.zero_le _) ⟨rfl, rfl, rfl, rfl, rfl, rfl, rfl, rfl, rfl, (hup_same hl).symm⟩
  · rintro i lc G' hi ⟨y0, y1, y2, y3, y4, y5, y6, y7, y8, rfl⟩ ih
    obtain ⟨h1, h2, h3, h4, -, -, -⟩ := rdS_ok (g := g) hb' hc i (by omega)
    have hstep := rdS_s B L g i
    generalize hh : (rdS B L g i).1 = h at *
    generalize ht : (rdS B L g i).2.1 = t at *
    generalize hll : (rdS B L g i).2.2.1 = l at *
    generalize haa : (rdS B L g i).2.2.2 = a at *
    have hbi := hb' i hi
    have hp26 : 2 ^ t < 2 ^ 26 := Nat.pow_lt_pow_right (by decide) h2
    have hlt : h + B i * 2 ^ t < 2 ^ 60 := by
      have q1 : B i * 2 ^ t ≤ 256 * 2 ^ 26 := Nat.mul_le_mul (by omega) (Nat.le_of_lt hp26)
      omega
    refine V_iload rfl (by first | rfl | assumption) ?_
    refine V_iload_n rfl (by first | rfl | assumption) ?_
    refine V_iload_n rfl (by first | rfl | assumption) ?_
    refine V_iadd rfl ?_
    refine V_icmp_ge rfl (fun h => absurd h (by rw [nI_add]; exact nI_ge (by omega) (by omega))) (fun _ => ?_)
    refine V_lload rfl (by first | rfl | assumption) (by first | rfl | assumption) ?_
    refine V_aload_n rfl (by first | rfl | assumption) ?_
    refine V_iload rfl (by first | rfl | assumption) ?_
    refine V_isldJ rfl ha rfl (by omega) (by omega) ?_
    rw [show b (s + i) = B i by rw [hB]]
    refine V_i2l rfl ?_
    rw [nI_l (by omega)]
    refine V_iload rfl (by first | rfl | assumption) ?_
    refine V_lshl rfl ?_
    rw [wb_shl _ (by omega)]
    refine V_lor rfl ?_
    rw [g_or' (k := t) rfl h1 (by omega)]
    refine V_lstore rfl (by decide) ?_
    refine V_iinc (v := nI (t + 8)) rfl (by first | rfl | assumption) (nI_add t 8) (by decide) ?_
    refine V_iload rfl (by first | rfl | assumption) ?_
    refine V_bipush (v := 26) rfl (by decide) ?_
    refine V_icmp_lt rfl (fun hx => ?_) (fun hx => ?_)
    · have hx' : ¬ (26 ≤ t + 8 ∧ l < L) := fun q => absurd hx (nI_nlt (b := 26) q.1 (by omega))
      rw [if_neg hx'] at hstep
      refine V_iinc (v := nI (s + (i + 1))) rfl (by first | rfl | assumption) (nI_add (s + i) 1) (by decide) ?_
      refine V_goto rfl ?_
      refine ih _ _ ⟨y0, y1, y2, y3, ?_, ?_, ?_, ?_, ?_, ?_⟩ <;> (try rw [hstep]) <;> first | rfl | assumption
    · have hx1 : 26 ≤ t + 8 := Nat.not_lt.mp (fun q => hx (nI_lt (b := 26) q (by decide)))
      refine V_iload rfl (by first | rfl | assumption) ?_
      refine V_aload_n rfl (by first | rfl | assumption) ?_
      refine V_alen rfl (by repeat (first | exact hup_eq | assumption | refine Eq.trans (hup_ne (by first | assumption | exact Ne.symm (by assumption) | decide)) ?_)) (by decide) ?_
      refine V_icmp_ge rfl (fun hy => ?_) (fun hy => ?_)
      · have hx' : ¬ (26 ≤ t + 8 ∧ l < L) := fun q => absurd hy (nI_ge q.2 (by omega))
        rw [if_neg hx'] at hstep
        refine V_iinc (v := nI (s + (i + 1))) rfl (by first | rfl | assumption) (nI_add (s + i) 1) (by decide) ?_
        refine V_goto rfl ?_
        refine ih _ _ ⟨y0, y1, y2, y3, ?_, ?_, ?_, ?_, ?_, ?_⟩ <;> (try rw [hstep]) <;> first | rfl | assumption
      · have hlL : l < L := Nat.not_le.mp (fun q => hy (nI_le q (by omega)))
        rw [if_pos ⟨hx1, hlL⟩] at hstep
        refine V_aload_n rfl (by first | rfl | assumption) ?_
        refine V_iload rfl (by first | rfl | assumption) ?_
        refine V_lload rfl (by first | rfl | assumption) (by first | rfl | assumption) ?_
        refine V_ldc2 (v := lN 67108863) rfl kc_X5_9 ?_
        refine V_landN 26 rfl (by decide) (by decide) (by omega) ?_
        refine V_lastN rfl hup_eq rfl hlL (by omega) ?_
        rw [hup_hup]
        refine V_iinc (v := nI (l + 1)) rfl (by first | rfl | assumption) (nI_add l 1) (by decide) ?_
        refine V_lload rfl (by first | rfl | assumption) (by first | rfl | assumption) ?_
        refine V_bipush (v := 26) rfl (by decide) ?_
        refine V_lshrN 26 rfl (by decide) (by omega) ?_
        refine V_lstore rfl (by decide) ?_
        refine V_iinc (v := nI (t + 8 - 26)) rfl (by first | rfl | assumption) (nI_dec 26 (by decide) hx1) (by decide) ?_
        refine V_iinc (v := nI (s + (i + 1))) rfl (by first | rfl | assumption) (nI_add (s + i) 1) (by decide) ?_
        refine V_goto rfl ?_
        refine ih _ _ ⟨y0, y1, y2, y3, ?_, ?_, ?_, ?_, ?_, ?_⟩ <;> (try rw [hstep]) <;> first | rfl | assumption
  · rintro lc G' ⟨y0, y1, y2, y3, y4, y5, y6, y7, y8, rfl⟩
    obtain ⟨h1, h2, h3, h4, -, -, -⟩ := rdS_ok (g := g) hb' hc c (Nat.le_refl c)
    refine V_iload rfl (by first | rfl | assumption) ?_
    refine V_iload_n rfl (by first | rfl | assumption) ?_
    refine V_iload_n rfl (by first | rfl | assumption) ?_
    refine V_iadd rfl ?_
    refine V_icmp_ge rfl (fun _ => ?_) (fun h => absurd (by rw [nI_add]; exact nI_le (Nat.le_refl _) (by omega)) h)
    refine V_iload rfl (by first | rfl | assumption) ?_
    refine V_aload_n rfl (by first | rfl | assumption) ?_
    refine V_alen rfl (by repeat (first | exact hup_eq | assumption | refine Eq.trans (hup_ne (by first | assumption | exact Ne.symm (by assumption) | decide)) ?_)) (by decide) ?_
    refine V_icmp_ge rfl (fun hy => ?_) (fun hy => ?_)
    · have hn : ¬ (rdS B L g c).2.2.1 < L := fun q => absurd hy (nI_ge q (by omega))
      unfold rdF at hq
      rw [if_neg hn] at hq
      exact V_vret rfl rfl hq
    · have hlL : (rdS B L g c).2.2.1 < L := Nat.not_le.mp (fun q => hy (nI_le q (by omega)))
      unfold rdF at hq
      rw [if_pos hlL] at hq
      refine V_aload_n rfl (by first | rfl | assumption) ?_
      refine V_iload rfl (by first | rfl | assumption) ?_
      refine V_lload rfl (by first | rfl | assumption) (by first | rfl | assumption) ?_
      refine V_lastN rfl hup_eq rfl hlL (by omega) ?_
      rw [hup_hup]
      exact V_vret rfl rfl hq

end CLimbs
