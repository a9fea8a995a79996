section CSeal4
variable {K : kK} {G : kG} {Q : kO → kG → Prop}
theorem lst_take {f : Nat → Nat} {n t : Nat} (h : t ≤ n) : (lst f n).take t = lst f t := by
  unfold lst
  rw [← List.map_take, List.take_range, Nat.min_eq_left h]
theorem lst_drop {f : Nat → Nat} {n s : Nat} (h : s ≤ n) : (lst f n).drop s = lst (fun j => f (s + j)) (n - s) := by
  obtain ⟨m, rfl⟩ : ∃ m, n = s + m := ⟨n - s, by omega⟩
  rw [lst_app, List.drop_append_of_le_length (by rw [lst_len]; exact Nat.le_refl _), show s + m - s = m by omega, List.drop_eq_nil_of_le (by rw [lst_len]; exact Nat.le_refl _), List.nil_append]
theorem rdP_short {made : Bool} {c : List Nat} (h : c.length < 6) : rdP made c = none := by unfold rdP; rw [if_pos h]
set_option maxHeartbeats 16000000 in
theorem c_readPlain {yr yd m0 : Nat} {c : List Nat} {y0 : Nat → Nat} {made : Bool} (g19 : G.1 19 = some SLO) (hc : Rw G 30 31 228 c) (gr : G.1 yr = some (ROB yd m0)) (gd : G.1 yd = some (BA 200 y0)) (hy : 31 < yr ∧ 31 < yd)
    (hq : ∀ G', FP (fun j => j = yr ∨ j = yd) G G' → (∀ p, rdP made c = some p → Rw G' yr yd 200 p) → (rdP made c = none → G' = G) → Q (.inl (some (.int (bI (rdP made c).isSome)))) G') : C K 0 0 mX7_readPlain [.ref 19, .int (bI made), .ref yr] G Q := by
  obtain ⟨a1, a2, b, a3, a4, a5⟩ := id hc
  have hno : rdP made c = none → Q (.inl (some (.int 0))) G := fun e => by
    have := hq G FP.rf (fun p hp => by rw [e] at hp; cases hp) (fun _ => rfl)
    rw [e] at this
    exact this
  have hg : ∀ j, j < c.length → gD c j = b j := fun j hj => gD_of a4 hj
  refine C_of okX7_readPlain (Nat.le_of_ble_eq_true rfl) ?_
  refine V_aload_n rfl (by first | rfl | assumption) ?_
  refine V_getf rfl rfl rfl (by repeat (first | exact hup_eq | assumption | refine Eq.trans (hup_ne (by first | assumption | exact Ne.symm (by assumption) | decide | omega)) ?_)) (by first | rfl | assumption) ?_
  refine V_getf rfl rfl rfl (by repeat (first | exact hup_eq | assumption | refine Eq.trans (hup_ne (by first | assumption | exact Ne.symm (by assumption) | decide | omega)) ?_)) (by first | rfl | assumption) ?_
  refine V_iconst (v := nI 4) rfl (by decide) ?_
  refine V_icmp_leN rfl (by omega) (by decide) (fun h => ?_) (fun h4 => ?_)
  · refine V_iconst (v := 0) rfl (by decide) ?_
    exact V_zret rfl rfl (Or.inl rfl) (hno (rdP_short (by omega)))
  refine V_aload_n rfl (by first | rfl | assumption) ?_
  refine V_getf rfl rfl rfl (by repeat (first | exact hup_eq | assumption | refine Eq.trans (hup_ne (by first | assumption | exact Ne.symm (by assumption) | decide | omega)) ?_)) (by first | rfl | assumption) ?_
  refine V_iconst (v := nI 0) rfl (by decide) ?_
  refine V_callV (M' := mX6_bigAt) (mc := 0) (ms := 0) (bc' := 0) (bs' := 0) rfl cw_X7_89 iv_X6_bigAt (by repeat (first | exact hup_eq | assumption | refine Eq.trans (hup_ne (by first | assumption | exact Ne.symm (by assumption) | decide | omega)) ?_)) rfl rfl (Nat.le_of_ble_eq_true rfl) ⟨Nat.le_of_ble_eq_true rfl, Nat.le_of_ble_eq_true rfl⟩ ⟨Nat.le_of_ble_eq_true rfl, Nat.le_of_ble_eq_true rfl⟩ (As := [.int (nI 0)]) (c_bigAt (f := b) (Q := fun o G' => o = .inl (some (.int (nI (be4v b 0)))) ∧ G' = G) a1 a3 (by omega) (by omega) (fun j hj => a5 _ (by omega)) ⟨rfl, rfl⟩) (fun o G' h => ?_) (fun E G' h => by cases h.1)
  obtain ⟨h0, rfl⟩ := h
  cases h0
  have hbv : be4v b 0 < 2 ^ 32 := by
    have e0 := a5 0 (by omega)
    have e1 := a5 1 (by omega)
    have e2 := a5 2 (by omega)
    have e3 := a5 3 (by omega)
    unfold be4v
    simp only [Nat.zero_add]
    omega
  have hbe : be4v (gD c) 0 = be4v b 0 := by
    unfold be4v
    rw [hg _ (by omega), hg _ (by omega), hg _ (by omega), hg _ (by omega)]
  refine V_aload_n rfl (by first | rfl | assumption) ?_
  refine V_getf rfl rfl rfl (by repeat (first | exact hup_eq | assumption | refine Eq.trans (hup_ne (by first | assumption | exact Ne.symm (by assumption) | decide | omega)) ?_)) (by first | rfl | assumption) ?_
  refine V_getf rfl rfl rfl (by repeat (first | exact hup_eq | assumption | refine Eq.trans (hup_ne (by first | assumption | exact Ne.symm (by assumption) | decide | omega)) ?_)) (by first | rfl | assumption) ?_
  refine V_iconst (v := nI 4) rfl (by decide) ?_
  refine V_isubN rfl (by first | omega | decide) ?_
  refine V_icmp_eq rfl (fun h => ?_) (fun h => ?_)
  rotate_left
  · refine V_iconst (v := 0) rfl (by decide) ?_
    refine V_zret rfl rfl (Or.inl rfl) (hno ?_)
    unfold rdP
    by_cases e6 : c.length < 6
    · rw [if_pos e6]
    · rw [if_neg e6, if_pos]
      rw [hbe]
      intro e
      exact h (by rw [e])
  have hv : be4v b 0 = c.length - 4 := by
    have e := congrArg (fun z : Int32 => z.toBitVec.toNat) h
    simp only [nI_tn] at e
    rw [Nat.mod_eq_of_lt hbv, Nat.mod_eq_of_lt (by omega)] at e
    exact e
  have b4 := a5 4 (by omega)
  obtain ⟨z, hz⟩ : ∃ z, z = b 4 := ⟨_, rfl⟩
  have hz4 : gD c 4 = z := by rw [hz, hg 4 (by omega)]
  refine V_aload_n rfl (by first | rfl | assumption) ?_
  refine V_getf rfl rfl rfl (by repeat (first | exact hup_eq | assumption | refine Eq.trans (hup_ne (by first | assumption | exact Ne.symm (by assumption) | decide | omega)) ?_)) (by first | rfl | assumption) ?_
  refine V_getf rfl rfl rfl (by repeat (first | exact hup_eq | assumption | refine Eq.trans (hup_ne (by first | assumption | exact Ne.symm (by assumption) | decide | omega)) ?_)) (by first | rfl | assumption) ?_
  refine V_iconst (v := nI 4) rfl (by decide) ?_
  refine V_ialdN rfl (by repeat (first | exact hup_eq | assumption | refine Eq.trans (hup_ne (by first | assumption | exact Ne.symm (by assumption) | decide | omega)) ?_)) rfl (by first | omega | decide) (by first | omega | decide) ?_
  refine V_istore_n rfl (by decide) ?_
  refine V_aload_n rfl (by first | rfl | assumption) ?_
  refine V_getf rfl rfl rfl (by repeat (first | exact hup_eq | assumption | refine Eq.trans (hup_ne (by first | assumption | exact Ne.symm (by assumption) | decide | omega)) ?_)) (by first | rfl | assumption) ?_
  refine V_getf rfl rfl rfl (by repeat (first | exact hup_eq | assumption | refine Eq.trans (hup_ne (by first | assumption | exact Ne.symm (by assumption) | decide | omega)) ?_)) (by first | rfl | assumption) ?_
  refine V_iconst (v := nI 4) rfl (by decide) ?_
  refine V_isubN rfl (by first | omega | decide) ?_
  refine V_iconst (v := nI 1) rfl (by decide) ?_
  refine V_isubN rfl (by first | omega | decide) ?_
  refine V_iload_n rfl (by first | rfl | assumption) ?_
  rw [← hz] at b4 ⊢
  by_cases hzz : c.length - 4 - 1 < z
  · refine V_isub rfl ?_
    have neg := pk_sneg (a := c.length - 4 - 1) (b := z) (by omega) hzz
    generalize nI (c.length - 4 - 1) - nI z = x at *
    refine V_istore rfl (by decide) ?_
    refine V_iload rfl (by first | rfl | assumption) ?_
    refine V_iconst (v := nI 1) rfl (by decide) ?_
    refine V_icmp_lt rfl (fun _ => ?_) (fun h => absurd (Int32.lt_trans neg (by decide)) h)
    refine V_iconst (v := 0) rfl (by decide) ?_
    refine V_zret rfl rfl (Or.inl rfl) (hno ?_)
    unfold rdP
    by_cases e6 : c.length < 6
    · rw [if_pos e6]
    · rw [if_neg e6, if_neg (by rw [hbe, hv]; exact fun q => q rfl), if_pos (by rw [hz4]; omega)]
  refine V_isubN rfl (by omega) ?_
  rw [show c.length - 4 - 1 - z = c.length - 5 - z by omega]
  obtain ⟨k, hk⟩ : ∃ k, k = c.length - 5 - z := ⟨_, rfl⟩
  rw [← hk]
  refine V_istore rfl (by decide) ?_
  refine V_iload rfl (by first | rfl | assumption) ?_
  refine V_iconst (v := nI 1) rfl (by decide) ?_
  refine V_icmp_ltN rfl (by omega) (by decide) (fun h1 => ?_) (fun h1 => ?_)
  · refine V_iconst (v := 0) rfl (by decide) ?_
    refine V_zret rfl rfl (Or.inl rfl) (hno ?_)
    unfold rdP
    by_cases e6 : c.length < 6
    · rw [if_pos e6]
    · rw [if_neg e6, if_neg (by rw [hbe, hv]; exact fun q => q rfl), if_pos (by rw [hz4]; omega)]
  have U : rdP made c = if 200 < k then none else if z ≠ zb k made then none else if (∀ j, j < z → gD c (c.length - z + j) = 0) then some ((c.drop 5).take k) else none := by
    unfold rdP
    rw [if_neg (by omega), if_neg (by rw [hbe, hv]; exact fun q => q rfl), hz4, if_neg (by omega), ← hk]
  refine V_iload rfl (by first | rfl | assumption) ?_
  refine V_sipush (v := nI 200) rfl (by decide) ?_
  refine V_icmp_gtN rfl (by omega) (by decide) (fun h2 => ?_) (fun h2 => ?_)
  · refine V_iconst (v := 0) rfl (by decide) ?_
    refine V_zret rfl rfl (Or.inl rfl) (hno ?_)
    rw [U, if_pos h2]
  rw [if_neg h2] at U
  refine V_iload_n rfl (by first | rfl | assumption) ?_
  refine V_iload rfl (by first | rfl | assumption) ?_
  refine V_iload_n rfl (by first | rfl | assumption) ?_
  refine V_callS (M' := mX7_zerosBehind) (mc := 0) (ms := 0) (bc' := 0) (bs' := 0) rfl cw_X7_44 is_X7_zerosBehind rfl (Nat.le_of_ble_eq_true rfl) ⟨Nat.le_of_ble_eq_true rfl, Nat.le_of_ble_eq_true rfl⟩ ⟨Nat.le_of_ble_eq_true rfl, Nat.le_of_ble_eq_true rfl⟩ (As := [.int (nI k), .int (bI made)]) (c_zerosBehind (n := k) (made := made) (Q := fun o G2 => o = .inl (some (.int (nI (zb k made)))) ∧ G2 = G') (by omega) ⟨rfl, rfl⟩) (fun o G2 h => ?_) (fun E G' h => by cases h.1)
  obtain ⟨h0, rfl⟩ := h
  cases h0
  have hzb := zb_le k made
  refine V_icmp_eqN rfl (by omega) (by omega) (fun h3 => ?_) (fun h3 => ?_)
  rotate_left
  · refine V_iconst (v := 0) rfl (by decide) ?_
    refine V_zret rfl rfl (Or.inl rfl) (hno ?_)
    rw [U, if_pos h3]
  rw [if_neg (fun q => q h3)] at U
  refine V_aload_n rfl (by first | rfl | assumption) ?_
  refine V_getf rfl rfl rfl (by repeat (first | exact hup_eq | assumption | refine Eq.trans (hup_ne (by first | assumption | exact Ne.symm (by assumption) | decide | omega)) ?_)) (by first | rfl | assumption) ?_
  refine V_getf rfl rfl rfl (by repeat (first | exact hup_eq | assumption | refine Eq.trans (hup_ne (by first | assumption | exact Ne.symm (by assumption) | decide | omega)) ?_)) (by first | rfl | assumption) ?_
  refine V_iload_n rfl (by first | rfl | assumption) ?_
  refine V_isubN rfl (by first | omega | decide) ?_
  refine V_istore rfl (by decide) ?_
  refine V_loop z (fun t lc G3 => lc 0 = some (.ref 19) ∧ lc 2 = some (.ref yr) ∧ lc 4 = some (.int (nI k)) ∧ lc 5 = some (.int (nI (c.length - z + t))) ∧ G3 = G2 ∧ ∀ j, j < t → b (c.length - z + j) = 0) ?_ ?_ 0 _ _ (Nat.zero_le _) ⟨rfl, rfl, rfl, rfl, rfl, fun j hj => absurd hj (Nat.not_lt_zero j)⟩
  · rintro t lc G3 ht ⟨l0, l2, l4, l5, rfl, hzr⟩ ih
    refine V_iload rfl (by first | rfl | assumption) ?_
    refine V_aload_n rfl (by first | rfl | assumption) ?_
    refine V_getf rfl rfl rfl (by repeat (first | exact hup_eq | assumption | refine Eq.trans (hup_ne (by first | assumption | exact Ne.symm (by assumption) | decide | omega)) ?_)) (by first | rfl | assumption) ?_
    refine V_getf rfl rfl rfl (by repeat (first | exact hup_eq | assumption | refine Eq.trans (hup_ne (by first | assumption | exact Ne.symm (by assumption) | decide | omega)) ?_)) (by first | rfl | assumption) ?_
    refine V_icmp_geN rfl (by omega) (by omega) (fun h => absurd h (by omega)) (fun _ => ?_)
    have bt := a5 (c.length - z + t) (by omega)
    refine V_aload_n rfl (by first | rfl | assumption) ?_
    refine V_getf rfl rfl rfl (by repeat (first | exact hup_eq | assumption | refine Eq.trans (hup_ne (by first | assumption | exact Ne.symm (by assumption) | decide | omega)) ?_)) (by first | rfl | assumption) ?_
    refine V_getf rfl rfl rfl (by repeat (first | exact hup_eq | assumption | refine Eq.trans (hup_ne (by first | assumption | exact Ne.symm (by assumption) | decide | omega)) ?_)) (by first | rfl | assumption) ?_
    refine V_iload rfl (by first | rfl | assumption) ?_
    refine V_ialdN rfl (by repeat (first | exact hup_eq | assumption | refine Eq.trans (hup_ne (by first | assumption | exact Ne.symm (by assumption) | decide | omega)) ?_)) rfl (by first | omega | decide) (by first | omega | decide) ?_
    refine V_if_eqN rfl (by omega) (fun h => ?_) (fun h => ?_)
    · refine V_iincN (d := 1) rfl (by first | rfl | assumption) (by decide) (by decide) ?_
      refine V_goto rfl ?_
      refine ih _ _ ⟨l0, l2, l4, rfl, rfl, fun j hj => ?_⟩
      by_cases e : j = t
      · rw [e]; exact h
      · exact hzr j (by omega)
    · refine V_iconst (v := 0) rfl (by decide) ?_
      refine V_zret rfl rfl (Or.inl rfl) (hno ?_)
      rw [U, if_neg]
      intro q
      exact h (by rw [← hg _ (by omega)]; exact q t ht)
  · rintro lc G3 ⟨l0, l2, l4, l5, rfl, hzr⟩
    refine V_iload rfl (by first | rfl | assumption) ?_
    refine V_aload_n rfl (by first | rfl | assumption) ?_
    refine V_getf rfl rfl rfl (by repeat (first | exact hup_eq | assumption | refine Eq.trans (hup_ne (by first | assumption | exact Ne.symm (by assumption) | decide | omega)) ?_)) (by first | rfl | assumption) ?_
    refine V_getf rfl rfl rfl (by repeat (first | exact hup_eq | assumption | refine Eq.trans (hup_ne (by first | assumption | exact Ne.symm (by assumption) | decide | omega)) ?_)) (by first | rfl | assumption) ?_
    refine V_icmp_geN rfl (by omega) (by omega) (fun _ => ?_) (fun h => absurd (by omega) h)
    rw [if_pos (fun j hj => by rw [hg _ (by omega)]; exact hzr j hj)] at U
    refine V_aload_n rfl (by first | rfl | assumption) ?_
    refine V_callV (M' := mX6_clear) (mc := 0) (ms := 0) (bc' := 0) (bs' := 0) rfl cw_X7_48 iv_X6_clear (by repeat (first | exact hup_eq | assumption | refine Eq.trans (hup_ne (by first | assumption | exact Ne.symm (by assumption) | decide | omega)) ?_)) rfl rfl (Nat.le_of_ble_eq_true rfl) ⟨Nat.le_of_ble_eq_true rfl, Nat.le_of_ble_eq_true rfl⟩ ⟨Nat.le_of_ble_eq_true rfl, Nat.le_of_ble_eq_true rfl⟩ (As := []) (c_clearU (Q := fun o G1 => o = .inl none ∧ FP (fun j => j = yr) G3 G1 ∧ Rw G1 yr yd 200 []) gr gd (fun G1 h1 h2 => ⟨rfl, h1, h2⟩)) (fun o G1 h => ?_) (fun E G' h => by cases h.1)
    obtain ⟨h0, F1, r1⟩ := h
    cases h0
    have hr1 := r1.1
    have q19 := F1.get (by omega) g19
    have q30 := F1.get (by omega) a1
    have q31 := F1.get (by omega) a3
    refine V_aload_n rfl (by first | rfl | assumption) ?_
    refine V_aload_n rfl (by first | rfl | assumption) ?_
    refine V_getf rfl rfl rfl (by repeat (first | exact hup_eq | assumption | refine Eq.trans (hup_ne (by first | assumption | exact Ne.symm (by assumption) | decide | omega)) ?_)) (by first | rfl | assumption) ?_
    refine V_getf rfl rfl rfl (by repeat (first | exact hup_eq | assumption | refine Eq.trans (hup_ne (by first | assumption | exact Ne.symm (by assumption) | decide | omega)) ?_)) (by first | rfl | assumption) ?_
    refine V_iconst (v := nI 5) rfl (by decide) ?_
    refine V_iload rfl (by first | rfl | assumption) ?_
    refine V_callV (M' := mX6_putAll) (mc := 0) (ms := 0) (bc' := 0) (bs' := 0) rfl cw_X7_61 iv_X6_putAll (by repeat (first | exact hup_eq | assumption | refine Eq.trans (hup_ne (by first | assumption | exact Ne.symm (by assumption) | decide | omega)) ?_)) rfl rfl (Nat.le_of_ble_eq_true rfl) ⟨Nat.le_of_ble_eq_true rfl, Nat.le_of_ble_eq_true rfl⟩ ⟨Nat.le_of_ble_eq_true rfl, Nat.le_of_ble_eq_true rfl⟩ (As := [.ref 31, .int (nI 5), .int (nI k)]) (c_putAllL (g := b) (Q := fun o G4 => o = .inl none ∧ FP (fun j => j = yr ∨ j = yd) G1 G4 ∧ Rw G4 yr yd 200 ((c.drop 5).take k)) r1 q31 (by omega) (show 0 + k ≤ 200 by omega) (by decide) (by decide) (fun j hj => a5 _ (by omega)) (fun G1 h1 h2 => ⟨rfl, h1, by
        rw [List.nil_append] at h2
        have e : (c.drop 5).take k = lst (fun j => b (5 + j)) k := by
          rw [← a4, lst_drop (by omega), lst_take (by omega)]
        rw [e]
        exact h2⟩)) (fun o G4 h => ?_) (fun E G' h => by cases h.1)
    obtain ⟨h0, F4, r4⟩ := h
    cases h0
    refine V_iconst (v := 1) rfl (by decide) ?_
    have := hq G4 ((F1.sub (fun x hx => Or.inl hx)).trans F4 (fun x hx => hx)) (fun p hp => by rw [U] at hp; cases hp; exact r4) (fun e => by rw [U] at e; cases e)
    rw [U] at this
    exact V_zret rfl rfl (Or.inr rfl) this
end CSeal4
