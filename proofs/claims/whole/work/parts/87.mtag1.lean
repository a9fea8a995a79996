/-! the reference: the tag -/
theorem p130 : ((2 : Nat) ^ 10) ^ 13 - 5 = PQ := by decide
theorem p130' : ((2 : Nat) ^ 10) ^ 13 = PQ + 5 := by decide
theorem tr4_Q {x : Nat → Nat} (h : ∀ k, k < 13 → x k < 2 ^ 55) : (∀ k, k < 13 → tr4 (2 ^ 10) 13 5 x 4 k < 2 ^ 10) ∧ vs (2 ^ 10) (tr4 (2 ^ 10) 13 5 x 4) 13 % PQ = vs (2 ^ 10) x 13 % PQ := by
  have h1 := cyr_le (B := 2 ^ 10) (by decide) h 13 (Nat.le_refl _)
  rw [(cyr_q (by decide) x 13).1] at h1
  have h2 := tr4_ok (B := 2 ^ 10) (n := 13) (c := 5) (E := 2 ^ 46) (by decide) (by decide) (x := x) (by decide) (Nat.le_of_lt h1) (by decide)
  rw [p130] at h2
  exact h2
section MTag
variable {K : kK} {G : kG} {Q : kO → kG → Prop} {th ta os hs ps rs : Int32}
set_option maxHeartbeats 4000000 in
theorem c_mtcarry {x : Nat → Nat} (g140 : G.1 140 = some (MO th ta os hs ps rs)) (g153 : G.1 153 = some (LA 13 x)) (hD : ∀ k, k < 13 → x k < 2 ^ 55)
    (hq : ∀ y, (∀ k, k < 13 → y k < 2 ^ 10) → vs (2 ^ 10) y 13 % PQ = vs (2 ^ 10) x 13 % PQ → Q (.inl none) (hup G 153 (LA 13 y))) : C K 0 0 mX12_tagCarry [.ref 140] G Q := by
  refine C_of okX12_tagCarry (Nat.le_of_ble_eq_true rfl) ?_
  refine V_iconst (v := nI 0) rfl (by decide) ?_
  refine V_istore_n rfl (by decide) ?_
  refine V_loop 4 (fun i lc G' => lc 0 = some (.ref 140) ∧ lc 1 = some (.int (nI i)) ∧ ∃ z, (∀ k, k < 13 → z k = tr4 (2 ^ 10) 13 5 x i k) ∧ G' = hup G 153 (LA 13 z)) ?_ ?_ 0 _ _ (Nat.zero_le _) ⟨rfl, rfl, x, fun _ _ => rfl, (hup_same g153).symm⟩
  · rintro i lc G' hi ⟨l0, l1, z0, hz0, rfl⟩ ih
    have hb := tr4_le (B := 2 ^ 10) (n := 13) (c := 5) (by decide) (by decide) (by decide) hD i
    have hs : tr4 (2 ^ 10) 13 5 x (i + 1) = trn (2 ^ 10) 13 5 (tr4 (2 ^ 10) 13 5 x i) := rfl
    generalize tr4 (2 ^ 10) 13 5 x i = xi at hb hs hz0
    have hc := cyr_le (B := 2 ^ 10) (by decide) hb
    refine V_iload_n rfl (by first | rfl | assumption) ?_
    refine V_iconst (v := nI 4) rfl (by decide) ?_
    refine V_icmp_geN rfl (by omega) (by decide) (fun h => absurd h (by omega)) (fun _ => ?_)
    refine V_lconst (v := lN 0) rfl (by decide) ?_
    refine V_lstore_n rfl (by decide) ?_
    refine V_iconst (v := nI 0) rfl (by decide) ?_
    refine V_istore rfl (by decide) ?_
    refine V_loop 13 (fun m lc G' => lc 0 = some (.ref 140) ∧ lc 1 = some (.int (nI i)) ∧ lc 2 = some (.long (lN (cyr (2 ^ 10) xi m))) ∧ lc 3 = some kmk ∧ lc 4 = some (.int (nI m)) ∧ ∃ z, (∀ k, k < m → z k = cdg (2 ^ 10) xi k) ∧ (∀ k, m ≤ k → k < 13 → z k = xi k) ∧ G' = hup G 153 (LA 13 z)) ?_ ?_ 0 _ _ (Nat.zero_le _) ⟨l0, l1, rfl, rfl, rfl, z0, fun k hk => absurd hk (Nat.not_lt_zero k), fun k _ hk => hz0 k hk, rfl⟩
    · rintro m lc G' hm ⟨l0, l1, l2, l3, l4, z, h1, h2, rfl⟩ ih2
      have hm1 := hb m hm
      have hm2 := hc m (by omega)
      refine V_iload rfl (by first | rfl | assumption) ?_
      refine V_bipush (v := nI 13) rfl (by decide) ?_
      refine V_icmp_geN rfl (by omega) (by omega) (fun h => absurd h (by omega)) (fun _ => ?_)
      refine V_aload_n rfl (by first | rfl | assumption) ?_
      refine V_getf rfl rfl rfl (by repeat (first | exact hup_eq | assumption | refine Eq.trans (hup_ne (by first | assumption | exact Ne.symm (by assumption) | decide | omega)) ?_)) (by first | rfl | assumption) ?_
      refine V_iload rfl (by first | rfl | assumption) ?_
      refine V_laldN rfl (by repeat (first | exact hup_eq | assumption | refine Eq.trans (hup_ne (by first | assumption | exact Ne.symm (by assumption) | decide | omega)) ?_)) rfl (by first | omega | decide) (by first | omega | decide) ?_
      rw [h2 m (Nat.le_refl _) hm]
      refine V_lload_n rfl (by first | rfl | assumption) (by first | rfl | assumption) ?_
      refine V_laddN rfl ?_
      refine V_lstore rfl (by decide) ?_
      refine V_aload_n rfl (by first | rfl | assumption) ?_
      refine V_getf rfl rfl rfl (by repeat (first | exact hup_eq | assumption | refine Eq.trans (hup_ne (by first | assumption | exact Ne.symm (by assumption) | decide | omega)) ?_)) (by first | rfl | assumption) ?_
      refine V_iload rfl (by first | rfl | assumption) ?_
      refine V_lload rfl (by first | rfl | assumption) (by first | rfl | assumption) ?_
      refine V_ldc2 (v := lN 1023) rfl kc_X12_241 ?_
      refine V_landN 10 rfl (by decide) (by decide) (by first | omega | decide) ?_
      refine V_lastN rfl (by repeat (first | exact hup_eq | assumption | refine Eq.trans (hup_ne (by first | assumption | exact Ne.symm (by assumption) | decide | omega)) ?_)) rfl (by first | omega | decide) (by first | omega | decide) ?_
      refine V_lload rfl (by first | rfl | assumption) (by first | rfl | assumption) ?_
      refine V_bipush (v := nI 10) rfl (by decide) ?_
      refine V_lshrN' rfl (by first | omega | decide) (by first | omega | decide) ?_
      refine V_lstore_n rfl (by decide) ?_
      refine V_iincN (d := 1) rfl (by first | rfl | assumption) (by decide) (by decide) ?_
      refine V_goto rfl ?_
      rw [hup_hup]
      refine ih2 _ _ ⟨l0, l1, rfl, rfl, rfl, _, fun k hk => ?_, fun k hk hk2 => ?_, rfl⟩
      · by_cases e : k = m
        · subst e; rw [updN_eq]; rfl
        · rw [updN_ne e]; exact h1 k (by omega)
      · rw [updN_ne (by omega)]; exact h2 k (by omega) hk2
    · rintro lc G' ⟨l0, l1, l2, l3, l4, z, h1, h2, rfl⟩
      refine V_iload rfl (by first | rfl | assumption) ?_
      refine V_bipush (v := nI 13) rfl (by decide) ?_
      refine V_icmp_geN rfl (by omega) (by omega) (fun _ => ?_) (fun h => absurd (Nat.le_refl _) h)
      refine V_aload_n rfl (by first | rfl | assumption) ?_
      refine V_getf rfl rfl rfl (by repeat (first | exact hup_eq | assumption | refine Eq.trans (hup_ne (by first | assumption | exact Ne.symm (by assumption) | decide | omega)) ?_)) (by first | rfl | assumption) ?_
      refine V_iconst (v := nI 0) rfl (by decide) ?_
      refine V_aload_n rfl (by first | rfl | assumption) ?_
      refine V_getf rfl rfl rfl (by repeat (first | exact hup_eq | assumption | refine Eq.trans (hup_ne (by first | assumption | exact Ne.symm (by assumption) | decide | omega)) ?_)) (by first | rfl | assumption) ?_
      refine V_iconst (v := nI 0) rfl (by decide) ?_
      refine V_laldN rfl (by repeat (first | exact hup_eq | assumption | refine Eq.trans (hup_ne (by first | assumption | exact Ne.symm (by assumption) | decide | omega)) ?_)) rfl (by first | omega | decide) (by first | omega | decide) ?_
      rw [h1 0 (by decide)]
      refine V_ldc2 (v := lN 5) rfl kc_X12_243 ?_
      refine V_lload_n rfl (by first | rfl | assumption) (by first | rfl | assumption) ?_
      refine V_lmulN rfl ?_
      refine V_laddN rfl ?_
      refine V_lastN rfl (by repeat (first | exact hup_eq | assumption | refine Eq.trans (hup_ne (by first | assumption | exact Ne.symm (by assumption) | decide | omega)) ?_)) rfl (by first | omega | decide) (by first | omega | decide) ?_
      refine V_iincN (d := 1) rfl (by first | rfl | assumption) (by decide) (by decide) ?_
      refine V_goto rfl ?_
      rw [hup_hup]
      refine ih _ _ ⟨l0, rfl, _, fun k hk => ?_, rfl⟩
      rw [hs]
      unfold trn
      by_cases e : k = 0
      · subst e; rw [updN_eq, if_pos rfl]
      · rw [updN_ne e, if_neg e]; exact h1 k hk
  · rintro lc G' ⟨l0, l1, z0, hz0, rfl⟩
    refine V_iload_n rfl (by first | rfl | assumption) ?_
    refine V_iconst (v := nI 4) rfl (by decide) ?_
    refine V_icmp_geN rfl (by decide) (by decide) (fun _ => ?_) (fun h => absurd (Nat.le_refl _) h)
    exact V_vret rfl rfl (hq _ (fun k hk => by rw [hz0 k hk]; exact (tr4_Q hD).1 k hk) (by rw [vs_congr hz0]; exact (tr4_Q hD).2))
set_option maxHeartbeats 8000000 in
theorem c_mttimes {x y w0 : Nat → Nat} (g140 : G.1 140 = some (MO th ta os hs ps rs)) (g153 : G.1 153 = some (LA 13 x)) (g154 : G.1 154 = some (LA 13 y)) (g155 : G.1 155 = some (LA 26 w0)) (hA1 : ∀ k, k < 13 → x k < 2 ^ 10) (hB1 : ∀ k, k < 13 → y k < 2 ^ 10)
    (hq : ∀ w z, (∀ k, k < 13 → z k < 2 ^ 10) → vs (2 ^ 10) z 13 % PQ = (vs (2 ^ 10) x 13 * vs (2 ^ 10) y 13) % PQ → Q (.inl none) (hup (hup G 155 (LA 26 w)) 153 (LA 13 z))) : C K 0 0 mX12_tagTimes [.ref 140] G Q := by
  refine C_of okX12_tagTimes (Nat.le_of_ble_eq_true rfl) ?_
  refine V_iconst (v := nI 0) rfl (by decide) ?_
  refine V_istore_n rfl (by decide) ?_
  refine V_loop 26 (fun i lc G' => lc 0 = some (.ref 140) ∧ lc 1 = some (.int (nI i)) ∧ ∃ w, (∀ k, k < i → w k = 0) ∧ G' = hup G 155 (LA 26 w)) ?_ ?_ 0 _ _ (Nat.zero_le _) ⟨rfl, rfl, w0, fun k hk => absurd hk (Nat.not_lt_zero k), (hup_same g155).symm⟩
  · rintro i lc G' hi ⟨l0, l1, w, hw, rfl⟩ ih
    refine V_iload_n rfl (by first | rfl | assumption) ?_
    refine V_bipush (v := nI 26) rfl (by decide) ?_
    refine V_icmp_geN rfl (by omega) (by decide) (fun h => absurd h (by omega)) (fun _ => ?_)
    refine V_aload_n rfl (by first | rfl | assumption) ?_
    refine V_getf rfl rfl rfl (by repeat (first | exact hup_eq | assumption | refine Eq.trans (hup_ne (by first | assumption | exact Ne.symm (by assumption) | decide | omega)) ?_)) (by first | rfl | assumption) ?_
    refine V_iload_n rfl (by first | rfl | assumption) ?_
    refine V_lconst (v := lN 0) rfl (by decide) ?_
    refine V_lastN rfl (by repeat (first | exact hup_eq | assumption | refine Eq.trans (hup_ne (by first | assumption | exact Ne.symm (by assumption) | decide | omega)) ?_)) rfl (by first | omega | decide) (by first | omega | decide) ?_
    refine V_iincN (d := 1) rfl (by first | rfl | assumption) (by decide) (by decide) ?_
    refine V_goto rfl ?_
    rw [hup_hup]
    refine ih _ _ ⟨l0, rfl, _, fun k hk => ?_, rfl⟩
    by_cases e : k = i
    · subst e; rw [updN_eq]
    · rw [updN_ne e]; exact hw k (by omega)
  rintro lc G' ⟨l0, l1, w, hw, rfl⟩
  refine V_iload_n rfl (by first | rfl | assumption) ?_
  refine V_bipush (v := nI 26) rfl (by decide) ?_
  refine V_icmp_geN rfl (by decide) (by decide) (fun _ => ?_) (fun h => absurd (Nat.le_refl _) h)
  refine V_iconst (v := nI 0) rfl (by decide) ?_
  refine V_istore_n rfl (by decide) ?_
  refine V_loop 13 (fun i lc G' => lc 0 = some (.ref 140) ∧ lc 1 = some (.int (nI i)) ∧ ∃ w, (∀ k, k < 26 → w k = cv x y 13 i k) ∧ G' = hup G 155 (LA 26 w)) ?_ ?_ 0 _ _ (Nat.zero_le _) ⟨l0, rfl, w, hw, rfl⟩
  · rintro i lc G' hi ⟨l0, l1, w, hw, rfl⟩ ih
    refine V_iload_n rfl (by first | rfl | assumption) ?_
    refine V_bipush (v := nI 13) rfl (by decide) ?_
    refine V_icmp_geN rfl (by omega) (by decide) (fun h => absurd h (by omega)) (fun _ => ?_)
    refine V_iconst (v := nI 0) rfl (by decide) ?_
    refine V_istore_n rfl (by decide) ?_
    refine V_loop 13 (fun m lc G' => lc 0 = some (.ref 140) ∧ lc 1 = some (.int (nI i)) ∧ lc 2 = some (.int (nI m)) ∧ G' = hup G 155 (LA 26 (fun k => w k + cvt (x i) y i m k))) ?_ ?_ 0 _ _ (Nat.zero_le _) ⟨l0, l1, rfl, by rw [show (fun k => w k + cvt (x i) y i 0 k) = w from funext (fun k => by rw [cvt_0]; rfl)]⟩
    · rintro m lc G' hm ⟨l0, l1, l2, rfl⟩ ih2
      refine V_iload_n rfl (by first | rfl | assumption) ?_
      refine V_bipush (v := nI 13) rfl (by decide) ?_
      refine V_icmp_geN rfl (by omega) (by decide) (fun h => absurd h (by omega)) (fun _ => ?_)
      refine V_aload_n rfl (by first | rfl | assumption) ?_
      refine V_getf rfl rfl rfl (by repeat (first | exact hup_eq | assumption | refine Eq.trans (hup_ne (by first | assumption | exact Ne.symm (by assumption) | decide | omega)) ?_)) (by first | rfl | assumption) ?_
      refine V_iload_n rfl (by first | rfl | assumption) ?_
      refine V_iload_n rfl (by first | rfl | assumption) ?_
      refine V_iaddN rfl ?_
      refine V_aload_n rfl (by first | rfl | assumption) ?_
      refine V_getf rfl rfl rfl (by repeat (first | exact hup_eq | assumption | refine Eq.trans (hup_ne (by first | assumption | exact Ne.symm (by assumption) | decide | omega)) ?_)) (by first | rfl | assumption) ?_
      refine V_iload_n rfl (by first | rfl | assumption) ?_
      refine V_iload_n rfl (by first | rfl | assumption) ?_
      refine V_iaddN rfl ?_
      refine V_laldN rfl (by repeat (first | exact hup_eq | assumption | refine Eq.trans (hup_ne (by first | assumption | exact Ne.symm (by assumption) | decide | omega)) ?_)) rfl (by first | omega | decide) (by first | omega | decide) ?_
      refine V_aload_n rfl (by first | rfl | assumption) ?_
      refine V_getf rfl rfl rfl (by repeat (first | exact hup_eq | assumption | refine Eq.trans (hup_ne (by first | assumption | exact Ne.symm (by assumption) | decide | omega)) ?_)) (by first | rfl | assumption) ?_
      refine V_iload_n rfl (by first | rfl | assumption) ?_
      refine V_laldN rfl (by repeat (first | exact hup_eq | assumption | refine Eq.trans (hup_ne (by first | assumption | exact Ne.symm (by assumption) | decide | omega)) ?_)) rfl (by first | omega | decide) (by first | omega | decide) ?_
      refine V_aload_n rfl (by first | rfl | assumption) ?_
      refine V_getf rfl rfl rfl (by repeat (first | exact hup_eq | assumption | refine Eq.trans (hup_ne (by first | assumption | exact Ne.symm (by assumption) | decide | omega)) ?_)) (by first | rfl | assumption) ?_
      refine V_iload_n rfl (by first | rfl | assumption) ?_
      refine V_laldN rfl (by repeat (first | exact hup_eq | assumption | refine Eq.trans (hup_ne (by first | assumption | exact Ne.symm (by assumption) | decide | omega)) ?_)) rfl (by first | omega | decide) (by first | omega | decide) ?_
      refine V_lmulN rfl ?_
      refine V_laddN rfl ?_
      refine V_lastN rfl (by repeat (first | exact hup_eq | assumption | refine Eq.trans (hup_ne (by first | assumption | exact Ne.symm (by assumption) | decide | omega)) ?_)) rfl (by first | omega | decide) (by first | omega | decide) ?_
      refine V_iincN (d := 1) rfl (by first | rfl | assumption) (by decide) (by decide) ?_
      refine V_goto rfl ?_
      rw [hup_hup, cvt_s]
      exact ih2 _ _ ⟨l0, l1, rfl, rfl⟩
    · rintro lc G' ⟨l0, l1, l2, rfl⟩
      refine V_iload_n rfl (by first | rfl | assumption) ?_
      refine V_bipush (v := nI 13) rfl (by decide) ?_
      refine V_icmp_geN rfl (by decide) (by decide) (fun _ => ?_) (fun h => absurd (Nat.le_refl _) h)
      refine V_iincN (d := 1) rfl (by first | rfl | assumption) (by decide) (by decide) ?_
      refine V_goto rfl ?_
      exact ih _ _ ⟨l0, rfl, _, fun k hk => by show _ = cv x y 13 i k + _; rw [hw k hk], rfl⟩
  rintro lc G' ⟨l0, l1, w, hw, rfl⟩
  refine V_iload_n rfl (by first | rfl | assumption) ?_
  refine V_bipush (v := nI 13) rfl (by decide) ?_
  refine V_icmp_geN rfl (by decide) (by decide) (fun _ => ?_) (fun h => absurd (Nat.le_refl _) h)
  refine V_iconst (v := nI 0) rfl (by decide) ?_
  refine V_istore_n rfl (by decide) ?_
  refine V_loop 13 (fun i lc G' => lc 0 = some (.ref 140) ∧ lc 1 = some (.int (nI i)) ∧ ∃ z, (∀ k, k < i → z k = cv x y 13 13 k + 5 * cv x y 13 13 (k + 13)) ∧ G' = hup (hup G 155 (LA 26 w)) 153 (LA 13 z)) ?_ ?_ 0 _ _ (Nat.zero_le _) ⟨l0, rfl, x, fun k hk => absurd hk (Nat.not_lt_zero k), (hup_same ((hup_ne (by decide)).trans g153)).symm⟩
  · rintro i lc G' hi ⟨l0, l1, z, hz, rfl⟩ ih
    refine V_iload_n rfl (by first | rfl | assumption) ?_
    refine V_bipush (v := nI 13) rfl (by decide) ?_
    refine V_icmp_geN rfl (by omega) (by decide) (fun h => absurd h (by omega)) (fun _ => ?_)
    refine V_aload_n rfl (by first | rfl | assumption) ?_
    refine V_getf rfl rfl rfl (by repeat (first | exact hup_eq | assumption | refine Eq.trans (hup_ne (by first | assumption | exact Ne.symm (by assumption) | decide | omega)) ?_)) (by first | rfl | assumption) ?_
    refine V_iload_n rfl (by first | rfl | assumption) ?_
    refine V_aload_n rfl (by first | rfl | assumption) ?_
    refine V_getf rfl rfl rfl (by repeat (first | exact hup_eq | assumption | refine Eq.trans (hup_ne (by first | assumption | exact Ne.symm (by assumption) | decide | omega)) ?_)) (by first | rfl | assumption) ?_
    refine V_iload_n rfl (by first | rfl | assumption) ?_
    refine V_laldN rfl (by repeat (first | exact hup_eq | assumption | refine Eq.trans (hup_ne (by first | assumption | exact Ne.symm (by assumption) | decide | omega)) ?_)) rfl (by first | omega | decide) (by first | omega | decide) ?_
    refine V_ldc2 (v := lN 5) rfl kc_X12_243 ?_
    refine V_aload_n rfl (by first | rfl | assumption) ?_
    refine V_getf rfl rfl rfl (by repeat (first | exact hup_eq | assumption | refine Eq.trans (hup_ne (by first | assumption | exact Ne.symm (by assumption) | decide | omega)) ?_)) (by first | rfl | assumption) ?_
    refine V_iload_n rfl (by first | rfl | assumption) ?_
    refine V_bipush (v := nI 13) rfl (by decide) ?_
    refine V_iaddN rfl ?_
    refine V_laldN rfl (by repeat (first | exact hup_eq | assumption | refine Eq.trans (hup_ne (by first | assumption | exact Ne.symm (by assumption) | decide | omega)) ?_)) rfl (by first | omega | decide) (by first | omega | decide) ?_
    refine V_lmulN rfl ?_
    refine V_laddN rfl ?_
    refine V_lastN rfl (by repeat (first | exact hup_eq | assumption | refine Eq.trans (hup_ne (by first | assumption | exact Ne.symm (by assumption) | decide | omega)) ?_)) rfl (by first | omega | decide) (by first | omega | decide) ?_
    refine V_iincN (d := 1) rfl (by first | rfl | assumption) (by decide) (by decide) ?_
    refine V_goto rfl ?_
    rw [hup_hup]
    refine ih _ _ ⟨l0, rfl, _, fun k hk => ?_, rfl⟩
    by_cases e : k = i
    · subst e; rw [updN_eq, hw _ (by omega), hw _ (by omega)]
    · rw [updN_ne e]; exact hz k (by omega)
  · rintro lc G' ⟨l0, l1, z, hz, rfl⟩
    refine V_iload_n rfl (by first | rfl | assumption) ?_
    refine V_bipush (v := nI 13) rfl (by decide) ?_
    refine V_icmp_geN rfl (by decide) (by decide) (fun _ => ?_) (fun h => absurd (Nat.le_refl _) h)
    refine V_aload_n rfl (by first | rfl | assumption) ?_
    refine V_callV (M' := mX12_tagCarry) (mc := 0) (ms := 0) (bc' := 0) (bs' := 0) rfl cw_X12_245 iv_X12_tagCarry (by repeat (first | exact hup_eq | assumption | refine Eq.trans (hup_ne (by first | assumption | exact Ne.symm (by assumption) | decide | omega)) ?_)) rfl rfl (Nat.le_of_ble_eq_true rfl) ⟨Nat.le_of_ble_eq_true rfl, Nat.le_of_ble_eq_true rfl⟩ ⟨Nat.le_of_ble_eq_true rfl, Nat.le_of_ble_eq_true rfl⟩ (As := []) (c_mtcarry (x := z) (Q := fun o G' => o = .inl none ∧ Q o G') (by repeat (first | exact hup_eq | assumption | refine Eq.trans (hup_ne (by first | assumption | exact Ne.symm (by assumption) | decide | omega)) ?_)) (by repeat (first | exact hup_eq | assumption | refine Eq.trans (hup_ne (by first | assumption | exact Ne.symm (by assumption) | decide | omega)) ?_)) (fun k hk => ?_) (fun y2 h1 h2 => ⟨rfl, ?_⟩)) (fun o G' h => ?_) (fun E G' h => by cases h.1)
    · have h1 := cv_lt hA1 hB1 13 (by decide) k
      have h2 := cv_lt hA1 hB1 13 (by decide) (k + 13)
      rw [hz k hk]
      omega
    · rw [hup_hup]
      rw [vs_congr hz, cv_fold p130'] at h2
      exact hq _ _ h1 h2
    · obtain ⟨h0, h⟩ := h
      cases h0
      exact V_vret rfl rfl h
/-- which bits of a key's first half count -/
def cnts (n : Nat) : Bool := !(decide (n / 8 % 4 = 3) && decide (3 < n % 8)) && !(decide (n / 8 % 4 = 0 ∧ n / 8 ≠ 0) && decide (n % 8 < 2))
theorem bt_and (x m i : Nat) : (x &&& m) / 2 ^ i % 2 = if m.testBit i then x / 2 ^ i % 2 else 0 := by
  have h1 : (x &&& m) / 2 ^ i % 2 < 2 := Nat.mod_lt _ (by decide)
  have h2 : x / 2 ^ i % 2 < 2 := Nat.mod_lt _ (by decide)
  have h3 := tb_iff (x &&& m) i
  have h4 := tb_iff x i
  rw [Nat.testBit_and, Bool.and_eq_true] at h3
  by_cases z : m.testBit i = true
  · rw [if_pos z]
    simp only [z, and_true] at h3
    rw [← h4] at h3
    omega
  · rw [if_neg z]
    have : ¬ ((x &&& m) / 2 ^ i % 2 = 1) := fun q => z (h3.mp q).2
    omega
theorem t15 : ∀ i, i < 8 → Nat.testBit 15 i = !decide (3 < i) := by decide
theorem t252 : ∀ i, i < 8 → Nat.testBit 252 i = !decide (i < 2) := by decide
theorem rK_bit {k : Nat → Nat} (hk : ∀ j, k j < 256) {n : Nat} (hn : n < 128) : rK k / 2 ^ n % 2 = if cnts n then k (n / 8) / 2 ^ (n % 8) % 2 else 0 := by
  unfold rK
  have hc : ∀ j, ck k j < 256 := fun j => by
    unfold ck
    split
    · exact Nat.lt_of_le_of_lt Nat.and_le_left (hk j)
    · split
      · exact Nat.lt_of_le_of_lt Nat.and_le_left (hk j)
      · exact hk j
  rw [← byte_bit hc (N := 16) (by omega)]
  unfold ck cnts
  have h8 : n % 8 < 8 := Nat.mod_lt _ (by decide)
  by_cases h3 : n / 8 % 4 = 3
  · rw [if_pos h3, bt_and, t15 _ h8]
    have : ¬ (n / 8 % 4 = 0 ∧ n / 8 ≠ 0) := by omega
    rw [decide_eq_false this, decide_eq_true h3, Bool.true_and, Bool.false_and, Bool.not_false, Bool.and_true]
  · rw [if_neg h3]
    by_cases h0 : n / 8 % 4 = 0 ∧ n / 8 ≠ 0
    · rw [if_pos h0, bt_and, t252 _ h8]
      rw [decide_eq_false h3, decide_eq_true h0, Bool.true_and, Bool.false_and, Bool.not_false, Bool.true_and]
    · rw [if_neg h0]
      rw [decide_eq_false h3, decide_eq_false h0, Bool.false_and, Bool.false_and, Bool.not_false, Bool.and_true, if_pos rfl]
theorem c_mcounts {n : Nat} (hn : n < 128) (hq : Q (.inl (some (.int (bI (cnts n))))) G) : C K 0 0 mX12_counts [.int (nI n)] G Q := by
  refine C_of okX12_counts (Nat.le_of_ble_eq_true rfl) ?_
  refine V_iload_n rfl (by first | rfl | assumption) ?_
  refine V_bipush (v := nI 8) rfl (by decide) ?_
  refine V_idivN rfl (by first | omega | decide) (by first | omega | decide) (by first | omega | decide) ?_
  refine V_istore_n rfl (by decide) ?_
  obtain ⟨lc, hlc⟩ : ∃ lc, lc = ls1 (kla [.int (nI n)]) 1 (.int (nI (n / 8))) := ⟨_, rfl⟩
  have l0 : lc 0 = some (.int (nI n)) := by rw [hlc]; rfl
  have l1 : lc 1 = some (.int (nI (n / 8))) := by rw [hlc]; rfl
  have t86 : ∀ (lc : kLo) (c : Bool), c = cnts n → V K 0 0 mX12_counts 86 lc [.int (bI c)] G Q := by
    rintro lc c rfl
    exact V_zret rfl rfl (bI_01 _) hq
  have yes : ∀ lc : kLo, cnts n = true → V K 0 0 mX12_counts 81 lc [] G Q := fun lc z => by
    refine V_iconst (v := bI true) rfl (by decide) ?_
    refine V_goto rfl ?_
    exact t86 _ true z.symm
  have no : ∀ lc : kLo, cnts n = false → V K 0 0 mX12_counts 85 lc [] G Q := fun lc z => by
    refine V_iconst (v := bI false) rfl (by decide) ?_
    exact t86 _ false z.symm
  have t69 : ∀ (lc : kLo) (d : Bool), lc 0 = some (.int (nI n)) → lc 3 = some (.int (bI d)) → d = decide (n / 8 % 4 = 0 ∧ n / 8 ≠ 0) → (decide (n / 8 % 4 = 3) && decide (3 < n % 8)) = false → V K 0 0 mX12_counts 69 lc [] G Q := by
    intro lc d l0 l3 hd hh
    refine V_iload_n rfl (by assumption) ?_
    refine V_if_eqB rfl (fun z => yes _ ?_) (fun z => ?_)
    · unfold cnts; rw [hh, ← hd, z]; rfl
    · refine V_iload_n rfl (by first | rfl | assumption) ?_
      refine V_bipush (v := nI 8) rfl (by decide) ?_
      refine V_iremN rfl (by first | omega | decide) (by first | omega | decide) (by first | omega | decide) ?_
      refine V_iconst (v := nI 2) rfl (by decide) ?_
      refine V_icmp_ltN rfl (by omega) (by decide) (fun z2 => no _ ?_) (fun z2 => yes _ ?_)
      · unfold cnts; rw [hh, ← hd, z, decide_eq_true z2]; rfl
      · unfold cnts; rw [hh, ← hd, z, decide_eq_false z2]; rfl
  have t56 : ∀ (lc : kLo) (c d : Bool), lc 0 = some (.int (nI n)) → lc 2 = some (.int (bI c)) → c = decide (n / 8 % 4 = 3) → d = decide (n / 8 % 4 = 0 ∧ n / 8 ≠ 0) → V K 0 0 mX12_counts 56 lc [.int (bI d)] G Q := by
    intro lc c d l0 l2 hc hd
    refine V_istore_n rfl (by decide) ?_
    refine V_iload_n rfl (by exact l2) ?_
    refine V_if_eqB rfl (fun z => t69 _ d l0 rfl hd ?_) (fun z => ?_)
    · rw [← hc, z]; rfl
    · refine V_iload_n rfl (by first | rfl | assumption) ?_
      refine V_bipush (v := nI 8) rfl (by decide) ?_
      refine V_iremN rfl (by first | omega | decide) (by first | omega | decide) (by first | omega | decide) ?_
      refine V_iconst (v := nI 3) rfl (by decide) ?_
      refine V_icmp_gtN rfl (by omega) (by decide) (fun z2 => no _ ?_) (fun z2 => t69 _ d l0 rfl hd ?_)
      · unfold cnts; rw [← hc, z, decide_eq_true z2]; rfl
      · rw [decide_eq_false z2, Bool.and_false]
  have t33 : ∀ (lc : kLo) (c : Bool), lc 0 = some (.int (nI n)) → lc 1 = some (.int (nI (n / 8))) → c = decide (n / 8 % 4 = 3) → V K 0 0 mX12_counts 33 lc [.int (bI c)] G Q := by
    intro lc c l0 l1 hc
    have y : ∀ lc : kLo, lc 0 = some (.int (nI n)) → lc 2 = some (.int (bI c)) → (n / 8 % 4 = 0 ∧ n / 8 ≠ 0) → V K 0 0 mX12_counts 51 lc [] G Q := fun lc l0 l2 z => by
      refine V_iconst (v := bI true) rfl (by decide) ?_
      refine V_goto rfl ?_
      exact t56 _ c true l0 l2 hc (by rw [decide_eq_true z])
    have n9 : ∀ lc : kLo, lc 0 = some (.int (nI n)) → lc 2 = some (.int (bI c)) → ¬ (n / 8 % 4 = 0 ∧ n / 8 ≠ 0) → V K 0 0 mX12_counts 55 lc [] G Q := fun lc l0 l2 z => by
      refine V_iconst (v := bI false) rfl (by decide) ?_
      exact t56 _ c false l0 l2 hc (by rw [decide_eq_false z])
    refine V_istore_n rfl (by decide) ?_
    refine V_iload_n rfl (by first | rfl | assumption) ?_
    refine V_iconst (v := nI 4) rfl (by decide) ?_
    refine V_icmp_eqN rfl (by omega) (by decide) (fun z => y _ l0 rfl (by omega)) (fun z1 => ?_)
    refine V_iload_n rfl (by first | rfl | assumption) ?_
    refine V_bipush (v := nI 8) rfl (by decide) ?_
    refine V_icmp_eqN rfl (by omega) (by decide) (fun z => y _ l0 rfl (by omega)) (fun z2 => ?_)
    refine V_iload_n rfl (by first | rfl | assumption) ?_
    refine V_bipush (v := nI 12) rfl (by decide) ?_
    exact V_icmp_neN rfl (by omega) (by decide) (fun z => n9 _ l0 rfl (by omega)) (fun z3 => y _ l0 rfl (by omega))
  have y : (n / 8 % 4 = 3) → V K 0 0 mX12_counts 28 lc [] G Q := fun z => by
    refine V_iconst (v := bI true) rfl (by decide) ?_
    refine V_goto rfl ?_
    exact t33 _ true l0 l1 (by rw [decide_eq_true z])
  have n9 : ¬ (n / 8 % 4 = 3) → V K 0 0 mX12_counts 32 lc [] G Q := fun z => by
    refine V_iconst (v := bI false) rfl (by decide) ?_
    exact t33 _ false l0 l1 (by rw [decide_eq_false z])
  suffices h : V K 0 0 mX12_counts 5 lc [] G Q by rw [hlc] at h; exact h
  clear hlc
  refine V_iload_n rfl (by first | rfl | assumption) ?_
  refine V_iconst (v := nI 3) rfl (by decide) ?_
  refine V_icmp_eqN rfl (by omega) (by decide) (fun z => y (by omega)) (fun z1 => ?_)
  refine V_iload_n rfl (by first | rfl | assumption) ?_
  refine V_bipush (v := nI 7) rfl (by decide) ?_
  refine V_icmp_eqN rfl (by omega) (by decide) (fun z => y (by omega)) (fun z2 => ?_)
  refine V_iload_n rfl (by first | rfl | assumption) ?_
  refine V_bipush (v := nI 11) rfl (by decide) ?_
  refine V_icmp_eqN rfl (by omega) (by decide) (fun z => y (by omega)) (fun z3 => ?_)
  refine V_iload_n rfl (by first | rfl | assumption) ?_
  refine V_bipush (v := nI 15) rfl (by decide) ?_
  exact V_icmp_neN rfl (by omega) (by decide) (fun z => n9 (by omega)) (fun z4 => y (by omega))
/-- the digits say: not below 2^130 - 5 -/
def grq (x : Nat → Nat) : Nat → Bool
  | 0 => decide (1019 ≤ x 0)
  | i + 1 => grq x i && decide (x (i + 1) = 1023)
theorem grq_t {x : Nat → Nat} : ∀ i, grq x i = true → 1019 ≤ x 0 ∧ ∀ k, 0 < k → k ≤ i → x k = 1023
  | 0, h => ⟨by simpa [grq] using h, fun k h1 h2 => by omega⟩
  | i + 1, h => by
    simp only [grq, Bool.and_eq_true, decide_eq_true_eq] at h
    have := grq_t i h.1
    refine ⟨this.1, fun k h1 h2 => ?_⟩
    by_cases e : k = i + 1
    · rw [e]; exact h.2
    · exact this.2 k h1 (by omega)
theorem grq_f {x : Nat → Nat} (h0 : 1019 ≤ x 0) : ∀ i, (∀ k, 0 < k → k ≤ i → x k = 1023) → grq x i = true
  | 0, _ => by simpa [grq] using h0
  | i + 1, h => by
    simp only [grq, Bool.and_eq_true, decide_eq_true_eq]
    exact ⟨grq_f h0 i (fun k h1 h2 => h k h1 (by omega)), h _ (by omega) (Nat.le_refl _)⟩
theorem mxq_v : vs (2 ^ 10) (fun k => if k = 0 then 0 else 1023) 13 = PQ - 1019 := by decide +kernel
theorem vsq_z : vs (2 ^ 10) (smf 0) 13 = 0 := by decide +kernel
theorem grq_ok {x : Nat → Nat} (h : ∀ k, k < 13 → x k < 2 ^ 10) : vs (2 ^ 10) (if grq x 12 then smf (x 0 - 1019) else x) 13 = vs (2 ^ 10) x 13 % PQ := by
  have hV : vs (2 ^ 10) x 13 < (2 ^ 10) ^ 13 := vs_lt (by decide) h
  have hPQ : PQ = 1361129467683753853853498429727072845819 := rfl
  cases hg : grq x 12 with
  | true =>
    obtain ⟨g1, g2⟩ := grq_t 12 hg
    rw [if_pos rfl]
    have e1 : vs (2 ^ 10) x 13 = (PQ - 1019) + x 0 := by
      rw [← mxq_v]
      exact vs_hd (by simp) 13 (by decide) (fun k h1 h2 => by rw [if_neg (by omega)]; exact g2 k h1 (by omega))
    have e2 : vs (2 ^ 10) (smf (x 0 - 1019)) 13 = 0 + (x 0 - 1019) := by
      rw [← vsq_z]
      exact vs_hd (by simp [smf]) 13 (by decide) (fun k h1 _ => by unfold smf; rw [if_neg (by omega), if_neg (by omega)])
    have h0 := h 0 (by decide)
    rw [e2, e1]
    have hp : PQ - 1019 + x 0 = (x 0 - 1019) + PQ := by omega
    rw [hp, Nat.add_mod_right, Nat.mod_eq_of_lt (by omega)]
    omega
  | false =>
    simp only [Bool.false_eq_true, if_false]
    by_cases hl : vs (2 ^ 10) x 13 < PQ
    · rw [Nat.mod_eq_of_lt hl]
    · exfalso
      have hd := dig_uniq (B := 2 ^ 10) (by decide) h rfl
      generalize vs (2 ^ 10) x 13 = V at hV hl hd
      have ht : grq x 12 = true := by
        refine grq_f (by rw [hd 0 (by decide)]; omega) 12 (fun k h1 h2 => ?_)
        rw [hd k (by omega)]
        have : k = 1 ∨ k = 2 ∨ k = 3 ∨ k = 4 ∨ k = 5 ∨ k = 6 ∨ k = 7 ∨ k = 8 ∨ k = 9 ∨ k = 10 ∨ k = 11 ∨ k = 12 := by omega
        rcases this with rfl | rfl | rfl | rfl | rfl | rfl | rfl | rfl | rfl | rfl | rfl | rfl <;> omega
      rw [hg] at ht
      cases ht
end MTag
