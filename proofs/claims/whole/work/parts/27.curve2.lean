section CCurve2
variable {K : kK} {G : kG} {Q : kO → kG → Prop}
set_option maxHeartbeats 4000000 in
theorem c_scale {t wd r p : Nat} {fs : List Value} {w z x : Nat → Nat} (ht : G.1 t = some (.inr (0, fs))) (hf : fs[11]? = some (.ref wd)) (hw : G.1 wd = some (LA 20 w)) (hr : G.1 r = some (LA 10 z)) (hp : G.1 p = some (LA 10 x)) (hne : r ≠ wd) (hpw : p ≠ wd) (hx : fB x)
    (hq : ∀ w' z', fA z' → v10 z' % PP = (121665 * v10 x) % PP → Q (.inl none) (hup (hup G wd (LA 20 w')) r (LA 10 z'))) : C K 0 0 mX0_scale [.ref t, .ref r, .ref p] G Q := by
  have htw := LA_ne ht hw
  refine C_of okX0_scale (Nat.le_of_ble_eq_true rfl) ?_
  refine V_aload_n rfl (by first | rfl | assumption) ?_
  refine V_getf rfl rfl rfl (by repeat (first | exact hup_eq | assumption | refine Eq.trans (hup_ne (by first | assumption | exact Ne.symm (by assumption) | decide)) ?_)) (by first | rfl | assumption) ?_
  refine V_lconst (v := lN 0) rfl (by decide) ?_
  refine V_callS (M' := mJ7_fill_d0a16) (mc := 0) (ms := 0) (bc' := 0) (bs' := 0) rfl cw_X0_87 is_J7_fill_d0a16 rfl (Nat.le_of_ble_eq_true rfl) ⟨Nat.le_of_ble_eq_true rfl, Nat.le_of_ble_eq_true rfl⟩ ⟨Nat.le_of_ble_eq_true rfl, Nat.le_of_ble_eq_true rfl⟩ (As := [.ref wd, .long (lN 0)]) (c_fillL (v := 0) (Q := fun o G' => o = .inl none ∧ G' = hup G wd (LA 20 (fun j => if j < 20 then 0 else w j))) hw (by decide) ⟨rfl, rfl⟩) (fun o G' h => ?_) (fun E G' h => by cases h.1)
  obtain ⟨h, rfl⟩ := h
  cases h
  refine V_iconst (v := 0) rfl (by decide) ?_
  refine V_istore_n rfl (by decide) ?_
  refine V_loop 10 (fun i lc G' => lc 0 = some (.ref t) ∧ lc 1 = some (.ref r) ∧ lc 2 = some (.ref p) ∧ lc 3 = some (.int (nI i)) ∧ G' = hup G wd (LA 20 (fun j => if j < i then x j * 121665 else if j < 20 then 0 else w j))) ?_ ?_ 0 _ _ (Nat.zero_le _) ⟨rfl, rfl, rfl, rfl, by simp⟩
  · rintro i lc G' hi ⟨l0, l1, l2, l3, rfl⟩ ih
    refine V_iload_n rfl (by first | rfl | assumption) ?_
    refine V_bipush (v := 10) rfl (by decide) ?_
    refine V_icmp_ge rfl (fun h => absurd h (nI_ge (b := 10) hi (by decide))) (fun _ => ?_)
    refine V_aload_n rfl (by first | rfl | assumption) ?_
    refine V_getf rfl rfl rfl (by repeat (first | exact hup_eq | assumption | refine Eq.trans (hup_ne (by first | assumption | exact Ne.symm (by assumption) | decide)) ?_)) (by first | rfl | assumption) ?_
    refine V_iload_n rfl (by first | rfl | assumption) ?_
    refine V_aload_n rfl (by first | rfl | assumption) ?_
    refine V_iload_n rfl (by first | rfl | assumption) ?_
    refine V_laldN rfl ((hup_ne hpw).trans hp) rfl hi (by decide) ?_
    refine V_ldc2 (v := lN 121665) rfl kc_X0_110 ?_
    refine V_lmulN rfl ?_
    refine V_lastN rfl hup_eq rfl (by omega) (by decide) ?_
    rw [hup_hup]
    refine V_iinc rfl (by first | rfl | assumption) rfl (by decide) ?_
    refine V_goto rfl ?_
    refine ih _ _ ⟨l0, l1, l2, congrArg (fun z => some (Value.int z)) (nI_1 i), ?_⟩
    congr 2
    funext j
    simp only [updN]
    by_cases h1 : j = i
    · subst h1; simp
    · by_cases h2 : j < i
      · simp [h1, h2, show j < i + 1 by omega]
      · simp [h1, h2, show ¬ j < i + 1 by omega]
  · rintro lc G' ⟨l0, l1, l2, l3, rfl⟩
    refine V_iload_n rfl (by first | rfl | assumption) ?_
    refine V_bipush (v := 10) rfl (by decide) ?_
    refine V_icmp_ge rfl (fun _ => ?_) (fun h => absurd (nI_le (Nat.le_refl 10) (by decide)) h)
    refine V_aload_n rfl (by first | rfl | assumption) ?_
    refine V_aload_n rfl (by first | rfl | assumption) ?_
    obtain ⟨W, hW⟩ : ∃ W : Nat → Nat, W = fun j => if j < 10 then x j * 121665 else if j < 20 then 0 else w j := ⟨_, rfl⟩
    have hb : ∀ j, j < 20 → W j < 2 ^ 61 := fun j hj => by
      rw [hW]
      by_cases h1 : j < 10
      · simp only [h1, if_true]
        rcases Nat.lt_or_ge j 9 with q | q
        · have := hx.1 j q; omega
        · have : j = 9 := by omega
          subst this; have := hx.2; omega
      · simp only [h1, hj, if_false, if_true]; decide
    have hu : vs (2 ^ 26) (fun j => W (10 + j)) 10 = 0 := by
      rw [vs_congr (w' := fun _ => 0) (fun j hj => by rw [hW]; simp [show ¬ 10 + j < 10 by omega, show 10 + j < 20 by omega]), vs_zero]
    have hv : vs (2 ^ 26) W 20 = 121665 * v10 x := by
      have e : vs (2 ^ 26) W 20 = vs (2 ^ 26) W 10 + (2 ^ 26) ^ 10 * vs (2 ^ 26) (fun j => W (10 + j)) 10 := vs_split (m := 10) 10
      rw [e, hu, Nat.mul_zero, Nat.add_zero, ← vs_mul]
      exact vs_congr (fun j hj => by rw [hW]; simp [hj, Nat.mul_comm])
    obtain ⟨q1, q2⟩ := foR_mod (r := z) hb (by rw [hu]; decide)
    rw [← hW]
    refine V_callV (M' := mX0_fold) (mc := 0) (ms := 0) (bc' := 0) (bs' := 0) rfl cw_X0_112 iv_X0_fold (by repeat (first | exact hup_eq | assumption | refine Eq.trans (hup_ne (by first | assumption | exact Ne.symm (by assumption) | decide)) ?_)) rfl rfl (Nat.le_of_ble_eq_true rfl) ⟨Nat.le_of_ble_eq_true rfl, Nat.le_of_ble_eq_true rfl⟩ ⟨Nat.le_of_ble_eq_true rfl, Nat.le_of_ble_eq_true rfl⟩ (As := [.ref r]) (c_fold (Q := fun o G' => o = .inl none ∧ G' = hup (hup G wd (LA 20 (fo1 W 10).1)) r (LA 10 (foR W z))) ((hup_ne htw).trans ht) hf hup_eq ((hup_ne hne).trans hr) hne hb ⟨rfl, by rw [hup_hup]⟩) (fun o G' h => ?_) (fun E G' h => by cases h.1)
    obtain ⟨h, rfl⟩ := h
    cases h
    exact V_vret rfl rfl (hq _ _ q1 (by rw [q2, hv]))
theorem b26s (i : Nat) : ((2 : Nat) ^ 26) ^ (i + 1) = 2 ^ 26 * (2 ^ 26) ^ i := Nat.pow_succ'
/-! the last turn: below P -/
def se1 (r : Nat → Nat) : Nat → Nat
  | 0 => 19
  | i + 1 => (r i + se1 r i) / 2 ^ 26
theorem se1_spec (r : Nat → Nat) : ∀ i, ∃ ρ, ρ < (2 ^ 26) ^ i * 1 + 19 * (if i = 0 then 1 else 0) ∧ vs (2 ^ 26) r i + 19 = ρ + se1 r i * (2 ^ 26) ^ i
  | 0 => ⟨0, by simp, by simp [vs, se1]⟩
  | i + 1 => by
    obtain ⟨ρ, h1, h2⟩ := se1_spec r i
    have hρ : ρ < (2 ^ 26) ^ i ∨ (i = 0 ∧ ρ < 20) := by
      by_cases hi : i = 0
      · subst hi; right; simp at h1; exact ⟨rfl, by omega⟩
      · left; simpa [hi] using h1
    have hρ0 : ρ < (2 ^ 26) ^ i := by
      rcases hρ with q | ⟨q, q2⟩
      · exact q
      · subst q
        simp only [vs, se1, Nat.pow_zero, Nat.mul_one] at h2 ⊢
        omega
    refine ⟨ρ + (r i + se1 r i) % 2 ^ 26 * (2 ^ 26) ^ i, ?_, ?_⟩
    · simp only [Nat.add_eq_zero_iff, Nat.one_ne_zero, and_false, if_false, Nat.mul_zero, Nat.add_zero, Nat.mul_one]
      have h3 : (r i + se1 r i) % 2 ^ 26 * (2 ^ 26) ^ i ≤ (2 ^ 26 - 1) * (2 ^ 26) ^ i := Nat.mul_le_mul_right _ (by have := Nat.mod_lt (r i + se1 r i) (show 0 < 2 ^ 26 by decide); omega)
      have h4 : (2 ^ 26 - 1) * (2 ^ 26) ^ i + (2 ^ 26) ^ i = (2 ^ 26) ^ (i + 1) := by
        rw [b26s, ← Nat.succ_mul]
      omega
    · simp only [vs, se1]
      have e := Nat.mod_add_div (r i + se1 r i) (2 ^ 26)
      have e2 : ((r i + se1 r i) % 2 ^ 26 + 2 ^ 26 * ((r i + se1 r i) / 2 ^ 26)) * (2 ^ 26) ^ i = (r i + se1 r i) * (2 ^ 26) ^ i := by rw [e]
      rw [Nat.add_mul, Nat.add_mul (r i)] at e2
      have e3 : (r i + se1 r i) / 2 ^ 26 * (2 ^ 26) ^ (i + 1) = 2 ^ 26 * ((r i + se1 r i) / 2 ^ 26) * (2 ^ 26) ^ i := by
        rw [b26s, ← Nat.mul_assoc, Nat.mul_comm ((r i + se1 r i) / 2 ^ 26) (2 ^ 26)]
      rw [e3]
      omega
theorem se1_lt {r : Nat → Nat} : ∀ i, (∀ j, j < i → r j < 2 ^ 27) → se1 r i < 20
  | 0, _ => by simp [se1]
  | i + 1, h => by
    have h1 := se1_lt i (fun j hj => h j (by omega))
    have h2 := h i (by omega)
    simp only [se1]
    omega
def seK (r : Nat → Nat) : Nat := (r 9 + se1 r 9) / 2 ^ 21
def se2 (r : Nat → Nat) : Nat → (Nat → Nat) × Nat
  | 0 => (r, 19 * seK r)
  | i + 1 => (updN (se2 r i).1 i (((se2 r i).1 i + (se2 r i).2) % 2 ^ 26), ((se2 r i).1 i + (se2 r i).2) / 2 ^ 26)
theorem se2_spec (r : Nat → Nat) : ∀ i, (∀ j, ¬ j < i → (se2 r i).1 j = r j) ∧ (∀ j, j < i → (se2 r i).1 j < 2 ^ 26) ∧ vs (2 ^ 26) (se2 r i).1 i + (se2 r i).2 * (2 ^ 26) ^ i = vs (2 ^ 26) r i + 19 * seK r
  | 0 => ⟨fun _ _ => rfl, fun j hj => by omega, by simp [vs, se2]⟩
  | i + 1 => by
    obtain ⟨h1, h2, h3⟩ := se2_spec r i
    have hr : (se2 r i).1 i = r i := h1 i (by omega)
    refine ⟨fun j hj => ?_, fun j hj => ?_, ?_⟩
    · simp only [se2]
      rw [updN_ne (by omega)]
      exact h1 j (by omega)
    · simp only [se2]
      by_cases hji : j = i
      · subst hji
        rw [updN_eq]
        exact Nat.mod_lt _ (by decide)
      · rw [updN_ne (by omega)]
        exact h2 j (by omega)
    · have e1 : vs (2 ^ 26) (se2 r (i + 1)).1 i = vs (2 ^ 26) (se2 r i).1 i := vs_congr (fun j hj => by simp only [se2]; rw [updN_ne (by omega)])
      show vs (2 ^ 26) (se2 r (i + 1)).1 i + (se2 r (i + 1)).1 i * (2 ^ 26) ^ i + (se2 r (i + 1)).2 * (2 ^ 26) ^ (i + 1) = vs (2 ^ 26) r i + r i * (2 ^ 26) ^ i + 19 * seK r
      rw [e1]
      have e2 : (se2 r (i + 1)).1 i * (2 ^ 26) ^ i + (se2 r (i + 1)).2 * (2 ^ 26) ^ (i + 1) = (r i + (se2 r i).2) * (2 ^ 26) ^ i := by
        simp only [se2, updN_eq, hr]
        rw [b26s, ← Nat.mul_assoc, ← Nat.add_mul, Nat.mul_comm _ (2 ^ 26), Nat.mod_add_div]
      rw [Nat.add_assoc, e2, Nat.add_mul]
      omega
theorem se2_c {r : Nat → Nat} (hk : seK r ≤ 1) : ∀ i, (∀ j, j < i → r j < 2 ^ 27) → (se2 r i).2 < 20
  | 0, _ => by simp only [se2]; omega
  | i + 1, h => by
    have h1 := se2_c hk i (fun j hj => h j (by omega))
    have h2 := h i (by omega)
    have h3 : (se2 r i).1 i = r i := (se2_spec r i).1 i (by omega)
    simp only [se2, h3]
    omega
def seR (r : Nat → Nat) : Nat → Nat := updN (se2 r 9).1 9 (((se2 r 9).1 9 + (se2 r 9).2) % 2 ^ 21)
theorem seR_ok {r : Nat → Nat} (h : fA r) : seK r ≤ 1 ∧ v10 (seR r) = v10 r % PP ∧ (∀ j, j < 9 → seR r j < 2 ^ 26) ∧ seR r 9 < 2 ^ 21 := by
  have h27 : ∀ j, j < 9 → r j < 2 ^ 27 := fun j hj => by have := h.1 j hj; omega
  have hc := se1_lt 9 h27
  have hk : seK r ≤ 1 := by
    unfold seK
    have := h.2
    omega
  obtain ⟨a1, a2, a3⟩ := se2_spec r 9
  obtain ⟨ρ, b1, b2⟩ := se1_spec r 9
  have hc2 := se2_c hk 9 h27
  have r9 : (se2 r 9).1 9 = r 9 := a1 9 (by omega)
  have hv : v10 r = vs (2 ^ 26) r 9 + r 9 * (2 ^ 26) ^ 9 := rfl
  have hs : v10 (seR r) = vs (2 ^ 26) (se2 r 9).1 9 + seR r 9 * (2 ^ 26) ^ 9 := by
    show vs (2 ^ 26) (seR r) 9 + _ = _
    rw [vs_congr (w' := (se2 r 9).1) (fun j hj => by unfold seR; rw [updN_ne (by omega)])]
  have hs9 : seR r 9 = (r 9 + (se2 r 9).2) % 2 ^ 21 := by unfold seR; rw [updN_eq, r9]
  have hlt : vs (2 ^ 26) (se2 r 9).1 9 < (2 ^ 26) ^ 9 := vs_lt (by decide) a2
  have hvr : vs (2 ^ 26) r 9 < 2 ^ 234 + 2 ^ 229 := by
    have h0 := h.1
    simp only [vs]
    have c0 := h0 0 (by omega); have c1 := h0 1 (by omega); have c2 := h0 2 (by omega); have c3 := h0 3 (by omega); have c4 := h0 4 (by omega)
    have c5 := h0 5 (by omega); have c6 := h0 6 (by omega); have c7 := h0 7 (by omega); have c8 := h0 8 (by omega)
    clear h0 a1 a2 a3 b1 b2 h27 hlt
    simp only [Nat.reducePow, Nat.mul_one, Nat.zero_add, Nat.reduceAdd] at *
    omega
  refine ⟨hk, ?_, fun j hj => ?_, ?_⟩
  · rw [show ((2 : Nat) ^ 26) ^ 9 = 2 ^ 234 by decide] at *
    simp only [show ¬ (9 : Nat) = 0 by decide, if_false, Nat.mul_zero, Nat.add_zero, Nat.mul_one] at b1
    unfold seK at *
    have h9 := h.2
    -- the number and 19 more, above 2^255 or not
    have key : v10 (seR r) + (r 9 + se1 r 9) / 2 ^ 21 * PP = v10 r := by
      rw [hs, hs9, hv]
      have k1 : (r 9 + se1 r 9) / 2 ^ 21 = (r 9 + (se2 r 9).2) / 2 ^ 21 := by
        rcases Nat.lt_or_ge (r 9 + se1 r 9) (2 ^ 21) with q | q
        · have q0 : (r 9 + se1 r 9) / 2 ^ 21 = 0 := Nat.div_eq_of_lt q
          rw [q0] at a3 ⊢
          have : r 9 + (se2 r 9).2 < 2 ^ 21 := by omega
          rw [Nat.div_eq_of_lt this]
        · have q0 : (r 9 + se1 r 9) / 2 ^ 21 = 1 := by omega
          rw [q0] at a3 ⊢
          have : 2 ^ 21 ≤ r 9 + (se2 r 9).2 := by omega
          omega
      simp only [PP]
      omega
    have hlt2 : v10 (seR r) < PP := by
      have hq9 : seR r 9 < 2 ^ 21 := by rw [hs9]; exact Nat.mod_lt _ (by decide)
      rcases Nat.lt_or_ge (r 9 + se1 r 9) (2 ^ 21) with q | q
      · have q0 : (r 9 + se1 r 9) / 2 ^ 21 = 0 := Nat.div_eq_of_lt q
        rw [q0] at key
        rw [hv] at key
        simp only [PP]
        omega
      · have q0 : (r 9 + se1 r 9) / 2 ^ 21 = 1 := by omega
        rw [q0, hv] at key
        simp only [PP] at key ⊢
        omega
    rw [← key, Nat.add_mul_mod_self_right, Nat.mod_eq_of_lt hlt2]
  · unfold seR
    rw [updN_ne (by omega)]
    exact a2 j hj
  · rw [hs9]; exact Nat.mod_lt _ (by decide)
end CCurve2
