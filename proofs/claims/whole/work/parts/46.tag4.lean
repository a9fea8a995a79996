section CTag4
variable {K : kK} {G : kG} {Q : kO → kG → Prop}
set_option maxHeartbeats 8000000 in
theorem c_addPiece {a N s m : Nat} {f p0 q ad0 : Nat → Nat} (g24 : G.1 24 = some TGO) (g26 : G.1 26 = some (BA 17 p0)) (g28 : G.1 28 = some (LA 5 q)) (g29 : G.1 29 = some (LA 5 ad0)) (ga : G.1 a = some (BA N f)) (ha : a ≠ 26) (hm : m ≤ 16) (hs : s + m ≤ N) (hN : N < 2 ^ 20) (hf : ∀ j, j < m → f (s + j) < 256)
    (hq : ∀ p ad q', vs (2 ^ 26) ad 5 = vs 256 (fun j => f (s + j)) m + 256 ^ m → (∀ j, j < 5 → ad j < 2 ^ 26) → (∀ j, j < 5 → q' j = q j + ad j) → Q (.inl none) (hup (hup (hup G 26 (BA 17 p)) 29 (LA 5 ad)) 28 (LA 5 q'))) : C K 0 0 mX9_addPiece [.ref 24, .ref a, .int (nI s), .int (nI m)] G Q := by
  refine C_of okX9_addPiece (Nat.le_of_ble_eq_true rfl) ?_
  refine V_aload_n rfl (by first | rfl | assumption) ?_
  refine V_getf rfl rfl rfl (by repeat (first | exact hup_eq | assumption | refine Eq.trans (hup_ne (by first | assumption | exact Ne.symm (by assumption) | decide)) ?_)) (by first | rfl | assumption) ?_
  refine V_iconst (v := nI 0) rfl (by decide) ?_
  refine V_callS (M' := mJ7_fill_53178) (mc := 0) (ms := 0) (bc' := 0) (bs' := 0) rfl cw_X9_68 is_J7_fill_53178 rfl (Nat.le_of_ble_eq_true rfl) ⟨Nat.le_of_ble_eq_true rfl, Nat.le_of_ble_eq_true rfl⟩ ⟨Nat.le_of_ble_eq_true rfl, Nat.le_of_ble_eq_true rfl⟩ (As := [.ref 26, .int (nI 0)]) (c_fillI (Q := fun o G' => o = .inl none ∧ G' = hup G 26 (BA 17 (fun j => if j < 17 then 0 else p0 j))) g26 (by decide) ⟨rfl, rfl⟩) (fun o G' h => ?_) (fun E G' h => by cases h.1)
  obtain ⟨h, rfl⟩ := h
  cases h
  refine V_aload_n rfl (by first | rfl | assumption) ?_
  refine V_iload_n rfl (by first | rfl | assumption) ?_
  refine V_aload_n rfl (by first | rfl | assumption) ?_
  refine V_getf rfl rfl rfl (by repeat (first | exact hup_eq | assumption | refine Eq.trans (hup_ne (by first | assumption | exact Ne.symm (by assumption) | decide)) ?_)) (by first | rfl | assumption) ?_
  refine V_iconst (v := nI 0) rfl (by decide) ?_
  refine V_iload_n rfl (by first | rfl | assumption) ?_
  refine V_copyi (st := []) (n0 := N) (f := fun j => nI (f j)) rfl ⟨kk_X9_58, k_ac⟩ ((hup_ne ha).trans ga) hup_eq (nI_pos (by omega)) (by decide) (nI_pos (by omega)) (by rw [nI_clamp (by omega), nI_clamp (by omega)]; exact hs) (by rw [nI_clamp (n := m) (by omega), show (nI 0).toNatClampNeg = 0 by decide]; omega) (by decide) (by decide) ?_
  rw [nI_clamp (n := s) (by omega), nI_clamp (n := m) (by omega), show (nI 0).toNatClampNeg = 0 by decide, cpyN, hup_hup]
  refine V_aload_n rfl (by first | rfl | assumption) ?_
  refine V_getf rfl rfl rfl (by repeat (first | exact hup_eq | assumption | refine Eq.trans (hup_ne (by first | assumption | exact Ne.symm (by assumption) | decide)) ?_)) (by first | rfl | assumption) ?_
  refine V_iload_n rfl (by first | rfl | assumption) ?_
  refine V_iconst (v := nI 1) rfl (by decide) ?_
  refine V_iastN rfl (by repeat (first | exact hup_eq | assumption | refine Eq.trans (hup_ne (by first | assumption | exact Ne.symm (by assumption) | decide)) ?_)) rfl (by first | omega | decide) (by first | omega | decide) ?_
  rw [hup_hup]
  obtain ⟨p, hp⟩ : ∃ p, p = updN (va_cpy f (fun j => if j < 17 then 0 else p0 j) s 0 m) m 1 := ⟨_, rfl⟩
  rw [← hp]
  have hpv : ∀ j, j < 17 → p j = if j < m then f (s + j) else if j = m then 1 else 0 := fun j hj => by
    rw [hp]
    by_cases e : j = m
    · rw [e, updN_eq, if_neg (by omega), if_pos rfl]
    · rw [updN_ne e, if_neg e]
      by_cases e2 : j < m
      · rw [pk_cpy_in (by omega) (by omega), if_pos e2]; rfl
      · rw [pk_cpy_out (by omega), if_pos hj, if_neg e2]
  have hpl : ∀ j, j < 17 → p j < 256 := fun j hj => by
    rw [hpv j hj]
    split
    · exact hf j (by assumption)
    · split <;> decide
  have hval : vs 256 p 17 = vs 256 (fun j => f (s + j)) m + 256 ^ m := by
    obtain ⟨d, hd⟩ : ∃ d, 17 = m + 1 + d := ⟨17 - (m + 1), by omega⟩
    rw [hd, vs_split, vs_congr (w := fun j => p (m + 1 + j)) (w' := fun _ => 0) (fun j hj => by rw [hpv _ (by omega), if_neg (by omega), if_neg (by omega)]), vs_zero, Nat.mul_zero, Nat.add_zero]
    show vs 256 p m + p m * 256 ^ m = _
    rw [hpv m (by omega), if_neg (by omega), if_pos rfl, Nat.one_mul, vs_congr (w := p) (w' := fun j => f (s + j)) (fun j hj => by rw [hpv j (by omega), if_pos hj])]
  have hlt : vs 256 p 17 < 2 ^ 130 := by
    have e1 := vs_lt (B := 256) (n := m) (v := fun j => f (s + j)) (by decide) hf
    have e2 : 256 ^ m ≤ 256 ^ 16 := Nat.pow_le_pow_right (by decide) hm
    rw [hval]
    have e3 : (256 : Nat) ^ 16 + 256 ^ 16 < 2 ^ 130 := by decide
    omega
  clear hp
  refine V_aload_n rfl (by first | rfl | assumption) ?_
  refine V_getf rfl rfl rfl (by repeat (first | exact hup_eq | assumption | refine Eq.trans (hup_ne (by first | assumption | exact Ne.symm (by assumption) | decide)) ?_)) (by first | rfl | assumption) ?_
  refine V_iconst (v := nI 0) rfl (by decide) ?_
  refine V_bipush (v := nI 17) rfl (by decide) ?_
  refine V_aload_n rfl (by first | rfl | assumption) ?_
  refine V_getf rfl rfl rfl (by repeat (first | exact hup_eq | assumption | refine Eq.trans (hup_ne (by first | assumption | exact Ne.symm (by assumption) | decide)) ?_)) (by first | rfl | assumption) ?_
  refine V_callS (M' := mX5_read) (mc := 0) (ms := 0) (bc' := 0) (bs' := 0) rfl cw_X9_64 is_X5_read rfl (Nat.le_of_ble_eq_true rfl) ⟨Nat.le_of_ble_eq_true rfl, Nat.le_of_ble_eq_true rfl⟩ ⟨Nat.le_of_ble_eq_true rfl, Nat.le_of_ble_eq_true rfl⟩ (As := [.ref 26, .int (nI 0), .int (nI 17), .ref 29]) (c_readT (b := p) (Q := fun o G' => o = .inl none ∧ ∃ ad, vs (2 ^ 26) ad 5 = vs 256 p 17 ∧ (∀ j, j < 5 → ad j < 2 ^ 26) ∧ G' = hup (hup G 26 (BA 17 p)) 29 (LA 5 ad)) (by repeat (first | exact hup_eq | assumption | refine Eq.trans (hup_ne (by first | assumption | exact Ne.symm (by assumption) | decide)) ?_)) (by repeat (first | exact hup_eq | assumption | refine Eq.trans (hup_ne (by first | assumption | exact Ne.symm (by assumption) | decide)) ?_)) (by decide) (by decide) (by decide) (fun j hj => by rw [Nat.zero_add]; exact hpl j hj) (by decide) (by decide) (by rw [vs_congr (w' := p) (fun j hj => by rw [Nat.zero_add]), show ((2 : Nat) ^ 26) ^ 5 = 2 ^ 130 by decide]; exact hlt) (fun U u1 u2 => ⟨rfl, U, by rw [u1, vs_congr (w' := p) (fun j hj => by rw [Nat.zero_add])], u2, rfl⟩)) (fun o G' h => ?_) (fun E G' h => by cases h.1)
  obtain ⟨h, ad, ha1, ha2, rfl⟩ := h
  cases h
  refine V_iconst (v := nI 0) rfl (by decide) ?_
  refine V_istore rfl (by decide) ?_
  refine V_loop 5 (fun i lc G' => lc 0 = some (.ref 24) ∧ lc 4 = some (.int (nI i)) ∧ ∃ q', (∀ j, j < 5 → q' j = if j < i then q j + ad j else q j) ∧ G' = hup (hup (hup G 26 (BA 17 p)) 29 (LA 5 ad)) 28 (LA 5 q')) ?_ ?_ 0 _ _ (Nat.zero_le _) ⟨rfl, rfl, q, fun j hj => by rw [if_neg (Nat.not_lt_zero j)], (hup_same (by exact g28)).symm⟩
  · rintro i lc G' hi ⟨l0, l4, q', hq', rfl⟩ ih
    refine V_iload rfl (by first | rfl | assumption) ?_
    refine V_iconst (v := nI 5) rfl (by decide) ?_
    refine V_icmp_geN rfl (by omega) (by decide) (fun h => absurd h (by omega)) (fun _ => ?_)
    refine V_aload_n rfl (by first | rfl | assumption) ?_
    refine V_getf rfl rfl rfl (by repeat (first | exact hup_eq | assumption | refine Eq.trans (hup_ne (by first | assumption | exact Ne.symm (by assumption) | decide)) ?_)) (by first | rfl | assumption) ?_
    refine V_iload rfl (by first | rfl | assumption) ?_
    refine V_dup2 rfl rfl rfl ?_
    refine V_laldN rfl (by repeat (first | exact hup_eq | assumption | refine Eq.trans (hup_ne (by first | assumption | exact Ne.symm (by assumption) | decide)) ?_)) rfl (by first | omega | decide) (by first | omega | decide) ?_
    refine V_aload_n rfl (by first | rfl | assumption) ?_
    refine V_getf rfl rfl rfl (by repeat (first | exact hup_eq | assumption | refine Eq.trans (hup_ne (by first | assumption | exact Ne.symm (by assumption) | decide)) ?_)) (by first | rfl | assumption) ?_
    refine V_iload rfl (by first | rfl | assumption) ?_
    refine V_laldN rfl (by repeat (first | exact hup_eq | assumption | refine Eq.trans (hup_ne (by first | assumption | exact Ne.symm (by assumption) | decide)) ?_)) rfl (by first | omega | decide) (by first | omega | decide) ?_
    refine V_laddN rfl ?_
    refine V_lastN rfl (by repeat (first | exact hup_eq | assumption | refine Eq.trans (hup_ne (by first | assumption | exact Ne.symm (by assumption) | decide)) ?_)) rfl (by first | omega | decide) (by first | omega | decide) ?_
    refine V_iincN (d := 1) rfl (by first | rfl | assumption) (by decide) (by decide) ?_
    refine V_goto rfl ?_
    rw [hup_hup]
    refine ih _ _ ⟨l0, rfl, _, fun j hj => ?_, rfl⟩
    by_cases e : j = i
    · rw [e, updN_eq, if_pos (by omega), hq' i hi, if_neg (by omega)]
    · rw [updN_ne e, hq' j hj]
      by_cases e2 : j < i
      · rw [if_pos e2, if_pos (by omega)]
      · rw [if_neg e2, if_neg (by omega)]
  · rintro lc G' ⟨l0, l4, q', hq', rfl⟩
    refine V_iload rfl (by first | rfl | assumption) ?_
    refine V_iconst (v := nI 5) rfl (by decide) ?_
    refine V_icmp_geN rfl (by decide) (by decide) (fun _ => ?_) (fun h => absurd (by decide) h)
    exact V_vret rfl rfl (hq p ad q' (by rw [ha1, hval]) ha2 (fun j hj => by rw [hq' j hj, if_pos hj]))
set_option maxHeartbeats 8000000 in
theorem c_tcarry {w : Nat → Nat} (g24 : G.1 24 = some TGO) (g28 : G.1 28 = some (LA 5 w)) (h : ∀ j, j < 4 → w j < 2 ^ 61) (h4 : w 4 < 2 ^ 56) (hq : Q (.inl none) (hup G 28 (LA 5 (cr5 w)))) : C K 0 0 mX9_carry [.ref 24] G Q := by
  refine C_of okX9_carry (Nat.le_of_ble_eq_true rfl) ?_
  refine V_iconst (v := nI 0) rfl (by decide) ?_
  refine V_istore_n rfl (by decide) ?_
  have hb : ∀ i, i ≤ 4 → car (2 ^ 26) w i i < 2 ^ 62 := fun i hi => by
    have e := car_b (w := w) (n := 4) (c := 61) h (by decide) i hi
    by_cases e4 : i = 4
    · rw [e4] at e ⊢
      have : w 4 + 2 ^ (61 - 25) < 2 ^ 62 := by omega
      omega
    · have e5 := h i (by omega)
      have : w i + 2 ^ (61 - 25) < 2 ^ 62 := by omega
      omega
  refine V_loop 4 (fun i lc G' => lc 0 = some (.ref 24) ∧ lc 1 = some (.int (nI i)) ∧ G' = hup G 28 (LA 5 (car (2 ^ 26) w i))) ?_ ?_ 0 _ _ (Nat.zero_le _) ⟨rfl, rfl, (hup_same (by exact g28)).symm⟩
  · rintro i lc G' hi ⟨l0, l1, rfl⟩ ih
    refine V_iload_n rfl (by first | rfl | assumption) ?_
    refine V_iconst (v := nI 4) rfl (by decide) ?_
    refine V_icmp_geN rfl (by omega) (by decide) (fun h => absurd h (by omega)) (fun _ => ?_)
    refine V_aload_n rfl (by first | rfl | assumption) ?_
    refine V_getf rfl rfl rfl (by repeat (first | exact hup_eq | assumption | refine Eq.trans (hup_ne (by first | assumption | exact Ne.symm (by assumption) | decide)) ?_)) (by first | rfl | assumption) ?_
    refine V_iload_n rfl (by first | rfl | assumption) ?_
    refine V_iconst (v := nI 1) rfl (by decide) ?_
    refine V_iaddN rfl ?_
    refine V_dup2 rfl rfl rfl ?_
    refine V_laldN rfl (by repeat (first | exact hup_eq | assumption | refine Eq.trans (hup_ne (by first | assumption | exact Ne.symm (by assumption) | decide)) ?_)) rfl (by first | omega | decide) (by first | omega | decide) ?_
    refine V_aload_n rfl (by first | rfl | assumption) ?_
    refine V_getf rfl rfl rfl (by repeat (first | exact hup_eq | assumption | refine Eq.trans (hup_ne (by first | assumption | exact Ne.symm (by assumption) | decide)) ?_)) (by first | rfl | assumption) ?_
    refine V_iload_n rfl (by first | rfl | assumption) ?_
    refine V_laldN rfl (by repeat (first | exact hup_eq | assumption | refine Eq.trans (hup_ne (by first | assumption | exact Ne.symm (by assumption) | decide)) ?_)) rfl (by first | omega | decide) (by first | omega | decide) ?_
    refine V_bipush (v := nI 26) rfl (by decide) ?_
    refine V_lshrN' rfl (by exact hb i (by omega)) (by first | omega | decide) ?_
    refine V_laddN rfl ?_
    refine V_lastN rfl hup_eq rfl (by omega) (by decide) ?_
    rw [hup_hup]
    refine V_aload_n rfl (by first | rfl | assumption) ?_
    refine V_getf rfl rfl rfl (by repeat (first | exact hup_eq | assumption | refine Eq.trans (hup_ne (by first | assumption | exact Ne.symm (by assumption) | decide)) ?_)) (by first | rfl | assumption) ?_
    refine V_iload_n rfl (by first | rfl | assumption) ?_
    refine V_dup2 rfl rfl rfl ?_
    refine V_laldN rfl (by repeat (first | exact hup_eq | assumption | refine Eq.trans (hup_ne (by first | assumption | exact Ne.symm (by assumption) | decide)) ?_)) rfl (by first | omega | decide) (by first | omega | decide) ?_
    refine V_ldc2 (v := lN 67108863) rfl kc_X9_76 ?_
    refine V_landN 26 rfl (by decide) (by decide) (by rw [updN_ne (by omega)]; exact Nat.lt_trans (hb i (by omega)) (by decide)) ?_
    refine V_lastN rfl hup_eq rfl (by omega) (by decide) ?_
    rw [hup_hup, updN_ne (show i ≠ i + 1 by omega)]
    refine V_iincN (d := 1) rfl (by first | rfl | assumption) (by decide) (by decide) ?_
    refine V_goto rfl ?_
    exact ih _ _ ⟨l0, rfl, rfl⟩
  · rintro lc G' ⟨l0, l1, rfl⟩
    refine V_iload_n rfl (by first | rfl | assumption) ?_
    refine V_iconst (v := nI 4) rfl (by decide) ?_
    refine V_icmp_geN rfl (by decide) (by decide) (fun _ => ?_) (fun h => absurd (by decide) h)
    have hb4 := hb 4 (by decide)
    unfold cr5 at hq
    generalize car (2 ^ 26) w 4 = v at *
    refine V_aload_n rfl (by first | rfl | assumption) ?_
    refine V_getf rfl rfl rfl (by repeat (first | exact hup_eq | assumption | refine Eq.trans (hup_ne (by first | assumption | exact Ne.symm (by assumption) | decide)) ?_)) (by first | rfl | assumption) ?_
    refine V_iconst (v := nI 0) rfl (by decide) ?_
    refine V_dup2 rfl rfl rfl ?_
    refine V_laldN rfl (by repeat (first | exact hup_eq | assumption | refine Eq.trans (hup_ne (by first | assumption | exact Ne.symm (by assumption) | decide)) ?_)) rfl (by first | omega | decide) (by first | omega | decide) ?_
    refine V_ldc2 (v := lN 5) rfl kc_X9_71 ?_
    refine V_aload_n rfl (by first | rfl | assumption) ?_
    refine V_getf rfl rfl rfl (by repeat (first | exact hup_eq | assumption | refine Eq.trans (hup_ne (by first | assumption | exact Ne.symm (by assumption) | decide)) ?_)) (by first | rfl | assumption) ?_
    refine V_iconst (v := nI 4) rfl (by decide) ?_
    refine V_laldN rfl (by repeat (first | exact hup_eq | assumption | refine Eq.trans (hup_ne (by first | assumption | exact Ne.symm (by assumption) | decide)) ?_)) rfl (by first | omega | decide) (by first | omega | decide) ?_
    refine V_bipush (v := nI 26) rfl (by decide) ?_
    refine V_lshrN' rfl (by exact hb4) (by first | omega | decide) ?_
    refine V_lmulN rfl ?_
    refine V_laddN rfl ?_
    refine V_lastN rfl hup_eq rfl (by decide) (by decide) ?_
    rw [hup_hup, Nat.mul_comm, Nat.mul_comm (v 4 / 2 ^ 26)]
    refine V_aload_n rfl (by first | rfl | assumption) ?_
    refine V_getf rfl rfl rfl (by repeat (first | exact hup_eq | assumption | refine Eq.trans (hup_ne (by first | assumption | exact Ne.symm (by assumption) | decide)) ?_)) (by first | rfl | assumption) ?_
    refine V_iconst (v := nI 4) rfl (by decide) ?_
    refine V_dup2 rfl rfl rfl ?_
    refine V_laldN rfl (by repeat (first | exact hup_eq | assumption | refine Eq.trans (hup_ne (by first | assumption | exact Ne.symm (by assumption) | decide)) ?_)) rfl (by first | omega | decide) (by first | omega | decide) ?_
    refine V_ldc2 (v := lN 67108863) rfl kc_X9_76 ?_
    refine V_landN 26 rfl (by decide) (by decide) (by rw [updN_ne (by decide)]; exact Nat.lt_trans hb4 (by decide)) ?_
    refine V_lastN rfl hup_eq rfl (by decide) (by decide) ?_
    rw [hup_hup, updN_ne (show 4 ≠ 0 by decide)]
    exact V_vret rfl rfl hq
set_option maxHeartbeats 8000000 in
theorem c_mulF {q r ad0 : Nat → Nat} (g24 : G.1 24 = some TGO) (g27 : G.1 27 = some (LA 5 r)) (g28 : G.1 28 = some (LA 5 q)) (g29 : G.1 29 = some (LA 5 ad0)) (h0 : q 0 < 2 ^ 33 + 2 ^ 26) (h : ∀ j, 0 < j → j < 5 → q j < 2 ^ 27) (hr : ∀ j, j < 5 → r j < 2 ^ 26) (hr4 : r 4 < 2 ^ 20)
    (hq : ∀ ad q', vs (2 ^ 26) q' 5 % PQ = vs (2 ^ 26) q 5 * vs (2 ^ 26) r 5 % PQ → q' 0 < 2 ^ 33 → (∀ j, 0 < j → j < 5 → q' j < 2 ^ 26) → Q (.inl none) (hup (hup G 29 (LA 5 ad)) 28 (LA 5 q'))) : C K 0 0 mX9_multiplyByFactor [.ref 24] G Q := by
  obtain ⟨hl1, hl2⟩ := msum_lt h0 h hr hr4
  refine C_of okX9_multiplyByFactor (Nat.le_of_ble_eq_true rfl) ?_
  refine V_iconst (v := nI 0) rfl (by decide) ?_
  refine V_istore_n rfl (by decide) ?_
  refine V_loop 5 (fun i lc G' => lc 0 = some (.ref 24) ∧ lc 1 = some (.int (nI i)) ∧ ∃ ad, (∀ j, j < i → ad j = msum q r j 5) ∧ G' = hup G 29 (LA 5 ad)) ?_ ?_ 0 _ _ (Nat.zero_le _) ⟨rfl, rfl, ad0, fun j hj => absurd hj (Nat.not_lt_zero j), (hup_same (by exact g29)).symm⟩
  · rintro i lc G' hi ⟨l0, l1, ad, had, rfl⟩ ih
    refine V_iload_n rfl (by first | rfl | assumption) ?_
    refine V_iconst (v := nI 5) rfl (by decide) ?_
    refine V_icmp_geN rfl (by omega) (by decide) (fun h => absurd h (by omega)) (fun _ => ?_)
    refine V_lconst (v := lN 0) rfl (by decide) ?_
    refine V_lstore_n rfl (by decide) ?_
    refine V_iconst (v := nI 0) rfl (by decide) ?_
    refine V_istore rfl (by decide) ?_
    refine V_loop 5 (fun j lc G' => lc 0 = some (.ref 24) ∧ lc 1 = some (.int (nI i)) ∧ lc 2 = some (.long (lN (msum q r i j))) ∧ lc 3 = some kmk ∧ lc 4 = some (.int (nI j)) ∧ G' = hup G 29 (LA 5 ad)) ?_ ?_ 0 _ _ (Nat.zero_le _) ⟨l0, l1, rfl, rfl, rfl, rfl⟩
    · rintro j lc G' hj ⟨l0, l1, l2, l3, l4, rfl⟩ ih2
      refine V_iload rfl (by first | rfl | assumption) ?_
      refine V_iconst (v := nI 5) rfl (by decide) ?_
      refine V_icmp_geN rfl (by omega) (by decide) (fun h => absurd h (by omega)) (fun _ => ?_)
      refine V_lload_n rfl (by first | rfl | assumption) (by first | rfl | assumption) ?_
      refine V_iload rfl (by first | rfl | assumption) ?_
      refine V_iload_n rfl (by first | rfl | assumption) ?_
      refine V_icmp_gtN rfl (by omega) (by omega) (fun hij => ?_) (fun hij => ?_)
      · refine V_aload_n rfl (by first | rfl | assumption) ?_
        refine V_getf rfl rfl rfl (by repeat (first | exact hup_eq | assumption | refine Eq.trans (hup_ne (by first | assumption | exact Ne.symm (by assumption) | decide)) ?_)) (by first | rfl | assumption) ?_
        refine V_iload rfl (by first | rfl | assumption) ?_
        refine V_laldN rfl (by repeat (first | exact hup_eq | assumption | refine Eq.trans (hup_ne (by first | assumption | exact Ne.symm (by assumption) | decide)) ?_)) rfl (by first | omega | decide) (by first | omega | decide) ?_
        refine V_aload_n rfl (by first | rfl | assumption) ?_
        refine V_getf rfl rfl rfl (by repeat (first | exact hup_eq | assumption | refine Eq.trans (hup_ne (by first | assumption | exact Ne.symm (by assumption) | decide)) ?_)) (by first | rfl | assumption) ?_
        refine V_iconst (v := nI 5) rfl (by decide) ?_
        refine V_iload_n rfl (by first | rfl | assumption) ?_
        refine V_iaddN rfl ?_
        refine V_iload rfl (by first | rfl | assumption) ?_
        refine V_isubN rfl (by first | omega | decide) ?_
        refine V_laldN rfl (by repeat (first | exact hup_eq | assumption | refine Eq.trans (hup_ne (by first | assumption | exact Ne.symm (by assumption) | decide)) ?_)) rfl (by first | omega | decide) (by first | omega | decide) ?_
        refine V_lmulN rfl ?_
        refine V_ldc2 (v := lN 5) rfl kc_X9_71 ?_
        refine V_lmulN rfl ?_
        refine V_laddN rfl ?_
        refine V_lstore_n rfl (by decide) ?_
        refine V_iincN (d := 1) rfl (by first | rfl | assumption) (by decide) (by decide) ?_
        refine V_goto rfl ?_
        exact ih2 _ _ ⟨l0, l1, by simp only [msum]; rw [if_neg (by omega)]; rfl, rfl, rfl, rfl⟩
      · refine V_aload_n rfl (by first | rfl | assumption) ?_
        refine V_getf rfl rfl rfl (by repeat (first | exact hup_eq | assumption | refine Eq.trans (hup_ne (by first | assumption | exact Ne.symm (by assumption) | decide)) ?_)) (by first | rfl | assumption) ?_
        refine V_iload rfl (by first | rfl | assumption) ?_
        refine V_laldN rfl (by repeat (first | exact hup_eq | assumption | refine Eq.trans (hup_ne (by first | assumption | exact Ne.symm (by assumption) | decide)) ?_)) rfl (by first | omega | decide) (by first | omega | decide) ?_
        refine V_aload_n rfl (by first | rfl | assumption) ?_
        refine V_getf rfl rfl rfl (by repeat (first | exact hup_eq | assumption | refine Eq.trans (hup_ne (by first | assumption | exact Ne.symm (by assumption) | decide)) ?_)) (by first | rfl | assumption) ?_
        refine V_iload_n rfl (by first | rfl | assumption) ?_
        refine V_iload rfl (by first | rfl | assumption) ?_
        refine V_isubN rfl (by first | omega | decide) ?_
        refine V_laldN rfl (by repeat (first | exact hup_eq | assumption | refine Eq.trans (hup_ne (by first | assumption | exact Ne.symm (by assumption) | decide)) ?_)) rfl (by first | omega | decide) (by first | omega | decide) ?_
        refine V_lmulN rfl ?_
        refine V_goto rfl ?_
        refine V_laddN rfl ?_
        refine V_lstore_n rfl (by decide) ?_
        refine V_iincN (d := 1) rfl (by first | rfl | assumption) (by decide) (by decide) ?_
        refine V_goto rfl ?_
        exact ih2 _ _ ⟨l0, l1, by simp only [msum]; rw [if_pos (by omega)]; rfl, rfl, rfl, rfl⟩
    · rintro lc G' ⟨l0, l1, l2, l3, l4, rfl⟩
      refine V_iload rfl (by first | rfl | assumption) ?_
      refine V_iconst (v := nI 5) rfl (by decide) ?_
      refine V_icmp_geN rfl (by decide) (by decide) (fun _ => ?_) (fun h => absurd (by decide) h)
      generalize hms : msum q r i 5 = S at *
      refine V_aload_n rfl (by first | rfl | assumption) ?_
      refine V_getf rfl rfl rfl (by repeat (first | exact hup_eq | assumption | refine Eq.trans (hup_ne (by first | assumption | exact Ne.symm (by assumption) | decide)) ?_)) (by first | rfl | assumption) ?_
      refine V_iload_n rfl (by first | rfl | assumption) ?_
      refine V_lload_n rfl (by first | rfl | assumption) (by first | rfl | assumption) ?_
      refine V_lastN rfl (by repeat (first | exact hup_eq | assumption | refine Eq.trans (hup_ne (by first | assumption | exact Ne.symm (by assumption) | decide)) ?_)) rfl (by first | omega | decide) (by first | omega | decide) ?_
      refine V_iincN (d := 1) rfl (by first | rfl | assumption) (by decide) (by decide) ?_
      refine V_goto rfl ?_
      rw [hup_hup]
      refine ih _ _ ⟨l0, rfl, _, fun j hj => ?_, rfl⟩
      by_cases e : j = i
      · rw [e, updN_eq, hms]
      · rw [updN_ne e]; exact had j (by omega)
  · rintro lc G' ⟨l0, l1, ad, had, rfl⟩
    refine V_iload_n rfl (by first | rfl | assumption) ?_
    refine V_iconst (v := nI 5) rfl (by decide) ?_
    refine V_icmp_geN rfl (by decide) (by decide) (fun _ => ?_) (fun h => absurd (by decide) h)
    refine V_aload_n rfl (by first | rfl | assumption) ?_
    refine V_getf rfl rfl rfl (by repeat (first | exact hup_eq | assumption | refine Eq.trans (hup_ne (by first | assumption | exact Ne.symm (by assumption) | decide)) ?_)) (by first | rfl | assumption) ?_
    refine V_iconst (v := nI 0) rfl (by decide) ?_
    refine V_aload_n rfl (by first | rfl | assumption) ?_
    refine V_getf rfl rfl rfl (by repeat (first | exact hup_eq | assumption | refine Eq.trans (hup_ne (by first | assumption | exact Ne.symm (by assumption) | decide)) ?_)) (by first | rfl | assumption) ?_
    refine V_iconst (v := nI 0) rfl (by decide) ?_
    refine V_iconst (v := nI 5) rfl (by decide) ?_
    refine V_copyl (st := []) (f := fun j => lN (ad j)) (n0 := 5) rfl ⟨kk_X9_58, k_ac⟩ hup_eq (by repeat (first | exact hup_eq | assumption | refine Eq.trans (hup_ne (by first | assumption | exact Ne.symm (by assumption) | decide)) ?_)) (by decide) (by decide) (by decide) (by decide) (by decide) (by decide) (by decide) ?_
    rw [show (nI 0).toNatClampNeg = 0 by decide, show (nI 5).toNatClampNeg = 5 by decide, cpyL]
    obtain ⟨w, hw⟩ : ∃ w, w = fun j => if j < 5 then ad j else q j := ⟨_, rfl⟩
    show V K 0 0 _ _ _ _ (hup (hup G 29 (LA 5 ad)) 28 (LA 5 (fun j => if j < 5 then ad j else q j))) Q
    rw [← hw]
    have hwv : ∀ j, j < 5 → w j = msum q r j 5 := fun j hj => by rw [hw]; show (if j < 5 then ad j else q j) = _; rw [if_pos hj]; exact had j hj
    clear hw
    refine V_aload_n rfl (by first | rfl | assumption) ?_
    have hw1 : ∀ j, j < 4 → w j < 2 ^ 61 := fun j hj => by rw [hwv j (by omega)]; exact hl1 j hj
    have hw4 : w 4 < 2 ^ 56 := by rw [hwv 4 (by decide)]; exact hl2
    refine V_callV (M' := mX9_carry) (mc := 0) (ms := 0) (bc' := 0) (bs' := 0) rfl cw_X9_73 iv_X9_carry (by repeat (first | exact hup_eq | assumption | refine Eq.trans (hup_ne (by first | assumption | exact Ne.symm (by assumption) | decide)) ?_)) rfl rfl (Nat.le_of_ble_eq_true rfl) ⟨Nat.le_of_ble_eq_true rfl, Nat.le_of_ble_eq_true rfl⟩ ⟨Nat.le_of_ble_eq_true rfl, Nat.le_of_ble_eq_true rfl⟩ (As := []) (c_tcarry (w := w) (Q := fun o G' => o = .inl none ∧ G' = hup (hup G 29 (LA 5 ad)) 28 (LA 5 (cr5 w))) (by repeat (first | exact hup_eq | assumption | refine Eq.trans (hup_ne (by first | assumption | exact Ne.symm (by assumption) | decide)) ?_)) (by repeat (first | exact hup_eq | assumption | refine Eq.trans (hup_ne (by first | assumption | exact Ne.symm (by assumption) | decide)) ?_)) hw1 hw4 ⟨rfl, by rw [hup_hup]⟩) (fun o G' h => ?_) (fun E G' h => by cases h.1)
    obtain ⟨h, rfl⟩ := h
    cases h
    obtain ⟨c1, c2, c3⟩ := cr5_ok hw1 hw4
    refine V_vret rfl rfl (hq ad _ ?_ c2 c3)
    rw [c1, vs_congr hwv, msum_ok]
set_option maxHeartbeats 8000000 in
theorem c_tsettle {q : Nat → Nat} (g24 : G.1 24 = some TGO) (g28 : G.1 28 = some (LA 5 q)) (h0 : q 0 < 2 ^ 33) (h : ∀ j, 0 < j → j < 5 → q j < 2 ^ 26) (hq : Q (.inl none) (hup G 28 (LA 5 (ts5 q)))) : C K 0 0 mX9_settle [.ref 24] G Q := by
  refine C_of okX9_settle (Nat.le_of_ble_eq_true rfl) ?_
  have hqb : ∀ j, j < 5 → q j < 2 ^ 33 := fun j hj => by
    by_cases e : j = 0
    · rw [e]; exact h0
    · have := h j (by omega) hj
      omega
  have hov : ∀ i, i ≤ 5 → ovr q i < 2 ^ 10 := by
    intro i
    induction i with
    | zero => intro _; show 5 < 2 ^ 10; decide
    | succ i ih =>
      intro hi
      have a := ih (by omega)
      have b := hqb i (by omega)
      simp only [ovr]
      omega
  refine V_ldc2 (v := lN 5) rfl kc_X9_71 ?_
  refine V_lstore_n rfl (by decide) ?_
  refine V_iconst (v := nI 0) rfl (by decide) ?_
  refine V_istore_n rfl (by decide) ?_
  refine V_loop 5 (fun i lc G' => lc 0 = some (.ref 24) ∧ lc 1 = some (.long (lN (ovr q i))) ∧ lc 2 = some kmk ∧ lc 3 = some (.int (nI i)) ∧ G' = G) ?_ ?_ 0 _ _ (Nat.zero_le _) ⟨rfl, rfl, rfl, rfl, rfl⟩
  · rintro i lc G' hi ⟨l0, l1, l2, l3, rfl⟩ ih
    refine V_iload_n rfl (by first | rfl | assumption) ?_
    refine V_iconst (v := nI 5) rfl (by decide) ?_
    refine V_icmp_geN rfl (by omega) (by decide) (fun h => absurd h (by omega)) (fun _ => ?_)
    have a := hov i (by omega)
    have b := hqb i hi
    refine V_aload_n rfl (by first | rfl | assumption) ?_
    refine V_getf rfl rfl rfl (by repeat (first | exact hup_eq | assumption | refine Eq.trans (hup_ne (by first | assumption | exact Ne.symm (by assumption) | decide)) ?_)) (by first | rfl | assumption) ?_
    refine V_iload_n rfl (by first | rfl | assumption) ?_
    refine V_laldN rfl (by repeat (first | exact hup_eq | assumption | refine Eq.trans (hup_ne (by first | assumption | exact Ne.symm (by assumption) | decide)) ?_)) rfl (by first | omega | decide) (by first | omega | decide) ?_
    refine V_lload_n rfl (by first | rfl | assumption) (by first | rfl | assumption) ?_
    refine V_laddN rfl ?_
    refine V_bipush (v := nI 26) rfl (by decide) ?_
    refine V_lshrN' rfl (by first | omega | decide) (by first | omega | decide) ?_
    refine V_lstore_n rfl (by decide) ?_
    refine V_iincN (d := 1) rfl (by first | rfl | assumption) (by decide) (by decide) ?_
    refine V_goto rfl ?_
    exact ih _ _ ⟨l0, rfl, rfl, rfl, rfl⟩
  · rintro lc G' ⟨l0, l1, l2, l3, rfl⟩
    refine V_iload_n rfl (by first | rfl | assumption) ?_
    refine V_iconst (v := nI 5) rfl (by decide) ?_
    refine V_icmp_geN rfl (by decide) (by decide) (fun _ => ?_) (fun h => absurd (by decide) h)
    have ho := hov 5 (by decide)
    unfold ts5 at hq
    generalize ovr q 5 = o at *
    refine V_aload_n rfl (by first | rfl | assumption) ?_
    refine V_getf rfl rfl rfl (by repeat (first | exact hup_eq | assumption | refine Eq.trans (hup_ne (by first | assumption | exact Ne.symm (by assumption) | decide)) ?_)) (by first | rfl | assumption) ?_
    refine V_iconst (v := nI 0) rfl (by decide) ?_
    refine V_dup2 rfl rfl rfl ?_
    refine V_laldN rfl (by repeat (first | exact hup_eq | assumption | refine Eq.trans (hup_ne (by first | assumption | exact Ne.symm (by assumption) | decide)) ?_)) rfl (by first | omega | decide) (by first | omega | decide) ?_
    refine V_ldc2 (v := lN 5) rfl kc_X9_71 ?_
    refine V_lload_n rfl (by first | rfl | assumption) (by first | rfl | assumption) ?_
    refine V_lmulN rfl ?_
    refine V_laddN rfl ?_
    refine V_lastN rfl (by repeat (first | exact hup_eq | assumption | refine Eq.trans (hup_ne (by first | assumption | exact Ne.symm (by assumption) | decide)) ?_)) rfl (by decide) (by decide) ?_
    obtain ⟨w, hw⟩ : ∃ w, w = updN q 0 (q 0 + 5 * o) := ⟨_, rfl⟩
    rw [← hw] at hq ⊢
    have hw61 : ∀ j, j < 4 → w j < 2 ^ 61 := fun j hj => by
      rw [hw]
      by_cases e : j = 0
      · rw [e, updN_eq]; omega
      · rw [updN_ne e]; exact Nat.lt_trans (hqb j (by omega)) (by decide)
    have hw4 : w 4 < 2 ^ 56 := by
      rw [hw, updN_ne (by decide)]
      exact Nat.lt_trans (hqb 4 (by decide)) (by decide)
    clear hw
    have hb : ∀ i, i ≤ 4 → car (2 ^ 26) w i i < 2 ^ 62 := fun i hi => by
      have e := car_b (w := w) (n := 4) (c := 61) hw61 (by decide) i hi
      by_cases e4 : i = 4
      · rw [e4] at e ⊢
        have : w 4 + 2 ^ (61 - 25) < 2 ^ 62 := by omega
        omega
      · have e5 := hw61 i (by omega)
        have : w i + 2 ^ (61 - 25) < 2 ^ 62 := by omega
        omega
    refine V_iconst (v := nI 0) rfl (by decide) ?_
    refine V_istore_n rfl (by decide) ?_
    refine V_loop 4 (fun i lc G2 => lc 0 = some (.ref 24) ∧ lc 3 = some (.int (nI i)) ∧ G2 = hup G' 28 (LA 5 (car (2 ^ 26) w i))) ?_ ?_ 0 _ _ (Nat.zero_le _) ⟨l0, rfl, rfl⟩
    · rintro i lc G2 hi ⟨l0, l3, rfl⟩ ih
      refine V_iload_n rfl (by first | rfl | assumption) ?_
      refine V_iconst (v := nI 4) rfl (by decide) ?_
      refine V_icmp_geN rfl (by omega) (by decide) (fun h => absurd h (by omega)) (fun _ => ?_)
      refine V_aload_n rfl (by first | rfl | assumption) ?_
      refine V_getf rfl rfl rfl (by repeat (first | exact hup_eq | assumption | refine Eq.trans (hup_ne (by first | assumption | exact Ne.symm (by assumption) | decide)) ?_)) (by first | rfl | assumption) ?_
      refine V_iload_n rfl (by first | rfl | assumption) ?_
      refine V_iconst (v := nI 1) rfl (by decide) ?_
      refine V_iaddN rfl ?_
      refine V_dup2 rfl rfl rfl ?_
      refine V_laldN rfl (by repeat (first | exact hup_eq | assumption | refine Eq.trans (hup_ne (by first | assumption | exact Ne.symm (by assumption) | decide)) ?_)) rfl (by first | omega | decide) (by first | omega | decide) ?_
      refine V_aload_n rfl (by first | rfl | assumption) ?_
      refine V_getf rfl rfl rfl (by repeat (first | exact hup_eq | assumption | refine Eq.trans (hup_ne (by first | assumption | exact Ne.symm (by assumption) | decide)) ?_)) (by first | rfl | assumption) ?_
      refine V_iload_n rfl (by first | rfl | assumption) ?_
      refine V_laldN rfl (by repeat (first | exact hup_eq | assumption | refine Eq.trans (hup_ne (by first | assumption | exact Ne.symm (by assumption) | decide)) ?_)) rfl (by first | omega | decide) (by first | omega | decide) ?_
      refine V_bipush (v := nI 26) rfl (by decide) ?_
      refine V_lshrN' rfl (by exact hb i (by omega)) (by first | omega | decide) ?_
      refine V_laddN rfl ?_
      refine V_lastN rfl hup_eq rfl (by omega) (by decide) ?_
      rw [hup_hup]
      refine V_aload_n rfl (by first | rfl | assumption) ?_
      refine V_getf rfl rfl rfl (by repeat (first | exact hup_eq | assumption | refine Eq.trans (hup_ne (by first | assumption | exact Ne.symm (by assumption) | decide)) ?_)) (by first | rfl | assumption) ?_
      refine V_iload_n rfl (by first | rfl | assumption) ?_
      refine V_dup2 rfl rfl rfl ?_
      refine V_laldN rfl (by repeat (first | exact hup_eq | assumption | refine Eq.trans (hup_ne (by first | assumption | exact Ne.symm (by assumption) | decide)) ?_)) rfl (by first | omega | decide) (by first | omega | decide) ?_
      refine V_ldc2 (v := lN 67108863) rfl kc_X9_76 ?_
      refine V_landN 26 rfl (by decide) (by decide) (by rw [updN_ne (by omega)]; exact Nat.lt_trans (hb i (by omega)) (by decide)) ?_
      refine V_lastN rfl hup_eq rfl (by omega) (by decide) ?_
      rw [hup_hup, updN_ne (show i ≠ i + 1 by omega)]
      refine V_iincN (d := 1) rfl (by first | rfl | assumption) (by decide) (by decide) ?_
      refine V_goto rfl ?_
      exact ih _ _ ⟨l0, rfl, rfl⟩
    · rintro lc G2 ⟨l0, l3, rfl⟩
      refine V_iload_n rfl (by first | rfl | assumption) ?_
      refine V_iconst (v := nI 4) rfl (by decide) ?_
      refine V_icmp_geN rfl (by decide) (by decide) (fun _ => ?_) (fun h => absurd (by decide) h)
      have hb4 := hb 4 (by decide)
      generalize car (2 ^ 26) w 4 = v at *
      refine V_aload_n rfl (by first | rfl | assumption) ?_
      refine V_getf rfl rfl rfl (by repeat (first | exact hup_eq | assumption | refine Eq.trans (hup_ne (by first | assumption | exact Ne.symm (by assumption) | decide)) ?_)) (by first | rfl | assumption) ?_
      refine V_iconst (v := nI 4) rfl (by decide) ?_
      refine V_dup2 rfl rfl rfl ?_
      refine V_laldN rfl (by repeat (first | exact hup_eq | assumption | refine Eq.trans (hup_ne (by first | assumption | exact Ne.symm (by assumption) | decide)) ?_)) rfl (by first | omega | decide) (by first | omega | decide) ?_
      refine V_ldc2 (v := lN 67108863) rfl kc_X9_76 ?_
      refine V_landN 26 rfl (by decide) (by decide) (Nat.lt_trans hb4 (by decide)) ?_
      refine V_lastN rfl hup_eq rfl (by decide) (by decide) ?_
      rw [hup_hup]
      exact V_vret rfl rfl hq
end CTag4
