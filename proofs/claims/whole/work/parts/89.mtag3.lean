section MTag3
variable {K : kK} {G : kG} {Q : kO → kG → Prop} {th ta os hs ps rs : Int32}
set_option maxHeartbeats 8000000 in
theorem c_mseal {a N s n kc Nk at9 : Nat} {f key : Nat → Nat} (g140 : G.1 140 = some (MO th ta os hs ps rs)) (ht : tM G) (ga : G.1 a = some (YA N f)) (ha : a = 141 ∨ a = 178 ∨ a = 181) (hs9 : s + n ≤ N) (hN : N < 2 ^ 20) (hf : ∀ j, f j < 256) (gk : G.1 kc = some (YA Nk key)) (hkc : kc = 141 ∨ kc = 152) (hNk : at9 + 32 ≤ Nk ∧ Nk < 2 ^ 20) (hkb : ∀ j, key j < 256)
    (hq : ∀ G' t, FP PT G G' → tM G' → G'.1 156 = some (YA 16 t) → (∀ j, t j < 256) → (∀ j, j < 16 → t j = TAG (sft f s) n (sft key at9) j) → Q (.inl none) G') : C K 0 0 mX12_seal [.ref 140, .ref a, .int (nI s), .int (nI n), .ref kc, .int (nI at9)] G Q := by
  obtain ⟨⟨q0, g153⟩, ⟨r0, g154⟩, ⟨w0, g155⟩, o, g156, ho⟩ := ht
  have hkb' : ∀ j, sft key at9 j < 256 := fun j => hkb _
  obtain ⟨R, hR⟩ : ∃ R, R = rK (sft key at9) := ⟨_, rfl⟩
  refine C_of okX12_seal (Nat.le_of_ble_eq_true rfl) ?_
  refine V_iconst (v := nI 0) rfl (by decide) ?_
  refine V_istore rfl (by decide) ?_
  refine V_loop 13 (fun i lc G' => lc 0 = some (.ref 140) ∧ lc 1 = some (.ref a) ∧ lc 2 = some (.int (nI s)) ∧ lc 3 = some (.int (nI n)) ∧ lc 4 = some (.ref kc) ∧ lc 5 = some (.int (nI at9)) ∧ lc 6 = some (.int (nI i)) ∧ ∃ q r, (∀ k, k < i → q k = 0 ∧ r k = 0) ∧ G' = hup (hup G 153 (LA 13 q)) 154 (LA 13 r)) ?_ ?_ 0 _ _ (Nat.zero_le _) ⟨rfl, rfl, rfl, rfl, rfl, rfl, rfl, q0, r0, fun k hk => absurd hk (Nat.not_lt_zero k), by rw [hup_same g153, hup_same g154]⟩
  · rintro i lc G' hi ⟨l0, l1, l2, l3, l4, l5, l6, q, r, hz, rfl⟩ ih
    refine V_iload rfl (by first | rfl | assumption) ?_
    refine V_bipush (v := nI 13) rfl (by decide) ?_
    refine V_icmp_geN rfl (by omega) (by decide) (fun h => absurd h (by omega)) (fun _ => ?_)
    refine V_aload_n rfl (by first | rfl | assumption) ?_
    refine V_getf rfl rfl rfl (by repeat (first | exact hup_eq | assumption | refine Eq.trans (hup_ne (by first | assumption | exact Ne.symm (by assumption) | decide | omega)) ?_)) (by first | rfl | assumption) ?_
    refine V_iload rfl (by first | rfl | assumption) ?_
    refine V_lconst (v := lN 0) rfl (by decide) ?_
    refine V_lastN rfl (by repeat (first | exact hup_eq | assumption | refine Eq.trans (hup_ne (by first | assumption | exact Ne.symm (by assumption) | decide | omega)) ?_)) rfl (by first | omega | decide) (by first | omega | decide) ?_
    refine V_aload_n rfl (by first | rfl | assumption) ?_
    refine V_getf rfl rfl rfl (by repeat (first | exact hup_eq | assumption | refine Eq.trans (hup_ne (by first | assumption | exact Ne.symm (by assumption) | decide | omega)) ?_)) (by first | rfl | assumption) ?_
    refine V_iload rfl (by first | rfl | assumption) ?_
    refine V_lconst (v := lN 0) rfl (by decide) ?_
    refine V_lastN rfl (by repeat (first | exact hup_eq | assumption | refine Eq.trans (hup_ne (by first | assumption | exact Ne.symm (by assumption) | decide | omega)) ?_)) rfl (by first | omega | decide) (by first | omega | decide) ?_
    refine V_iincN (d := 1) rfl (by first | rfl | assumption) (by decide) (by decide) ?_
    refine V_goto rfl ?_
    rw [hup4 (by decide)]
    refine ih _ _ ⟨l0, l1, l2, l3, l4, l5, rfl, _, _, fun k hk => ?_, rfl⟩
    by_cases e : k = i
    · subst e; rw [updN_eq, updN_eq]; exact ⟨rfl, rfl⟩
    · rw [updN_ne e, updN_ne e]; exact hz k (by omega)
  rintro lc G' ⟨l0, l1, l2, l3, l4, l5, l6, q, r, hz, rfl⟩
  refine V_iload rfl (by first | rfl | assumption) ?_
  refine V_bipush (v := nI 13) rfl (by decide) ?_
  refine V_icmp_geN rfl (by decide) (by decide) (fun _ => ?_) (fun h => absurd (Nat.le_refl _) h)
  refine V_iconst (v := nI 0) rfl (by decide) ?_
  refine V_istore rfl (by decide) ?_
  refine V_loop 128 (fun i lc G' => lc 0 = some (.ref 140) ∧ lc 1 = some (.ref a) ∧ lc 2 = some (.int (nI s)) ∧ lc 3 = some (.int (nI n)) ∧ lc 4 = some (.ref kc) ∧ lc 5 = some (.int (nI at9)) ∧ lc 6 = some (.int (nI i)) ∧ ∃ r, (∀ k, k < 13 → r k = dgt 10 R i k) ∧ G' = hup (hup G 153 (LA 13 q)) 154 (LA 13 r)) ?_ ?_ 0 _ _ (Nat.zero_le _) ⟨l0, l1, l2, l3, l4, l5, rfl, r, fun k hk => by rw [dgt_0]; exact (hz k hk).2, rfl⟩
  · rintro i lc G' hi ⟨l0, l1, l2, l3, l4, l5, l6, r, hr, rfl⟩ ih
    have tl : ∀ b : Nat, b = R / 2 ^ i % 2 → V K 0 0 mX12_seal 65 lc [.long (lN b)] (hup (hup G 153 (LA 13 q)) 154 (LA 13 r)) Q := by
      rintro b rfl
      have hb2 : R / 2 ^ i % 2 < 2 := Nat.mod_lt _ (by decide)
      refine V_lstore rfl (by decide) ?_
      refine V_aload_n rfl (by first | rfl | assumption) ?_
      refine V_getf rfl rfl rfl (by repeat (first | exact hup_eq | assumption | refine Eq.trans (hup_ne (by first | assumption | exact Ne.symm (by assumption) | decide | omega)) ?_)) (by first | rfl | assumption) ?_
      refine V_iload rfl (by first | rfl | assumption) ?_
      refine V_bipush (v := nI 10) rfl (by decide) ?_
      refine V_idivN rfl (by first | omega | decide) (by first | omega | decide) (by first | omega | decide) ?_
      refine V_aload_n rfl (by first | rfl | assumption) ?_
      refine V_getf rfl rfl rfl (by repeat (first | exact hup_eq | assumption | refine Eq.trans (hup_ne (by first | assumption | exact Ne.symm (by assumption) | decide | omega)) ?_)) (by first | rfl | assumption) ?_
      refine V_iload rfl (by first | rfl | assumption) ?_
      refine V_bipush (v := nI 10) rfl (by decide) ?_
      refine V_idivN rfl (by first | omega | decide) (by first | omega | decide) (by first | omega | decide) ?_
      refine V_laldN rfl (by repeat (first | exact hup_eq | assumption | refine Eq.trans (hup_ne (by first | assumption | exact Ne.symm (by assumption) | decide | omega)) ?_)) rfl (by first | omega | decide) (by first | omega | decide) ?_
      rw [hr _ (by omega)]
      refine V_lload rfl (by first | rfl | assumption) (by first | rfl | assumption) ?_
      refine V_iload rfl (by first | rfl | assumption) ?_
      refine V_bipush (v := nI 10) rfl (by decide) ?_
      refine V_iremN rfl (by first | omega | decide) (by first | omega | decide) (by first | omega | decide) ?_
      refine V_lshlN rfl (by first | omega | decide) ?_
      refine V_lor rfl ?_
      rw [lor_p (by omega) dgt_room hb2]
      refine V_lastN rfl (by repeat (first | exact hup_eq | assumption | refine Eq.trans (hup_ne (by first | assumption | exact Ne.symm (by assumption) | decide | omega)) ?_)) rfl (by first | omega | decide) (by first | omega | decide) ?_
      refine V_iincN (d := 1) rfl (by first | rfl | assumption) (by decide) (by decide) ?_
      refine V_goto rfl ?_
      rw [hup_hup]
      refine ih _ _ ⟨l0, l1, l2, l3, l4, l5, rfl, _, fun k hk => ?_, rfl⟩
      rw [dgt_s (by decide)]
      by_cases e : k = i / 10
      · subst e; rw [updN_eq, if_pos rfl]
      · rw [updN_ne e, if_neg e]; exact hr k hk
    refine V_iload rfl (by first | rfl | assumption) ?_
    refine V_sipush (v := nI 128) rfl (by decide) ?_
    refine V_icmp_geN rfl (by omega) (by decide) (fun h => absurd h (by omega)) (fun _ => ?_)
    refine V_iload rfl (by assumption) ?_
    refine V_callS (M' := mX12_counts) (mc := 0) (ms := 0) (bc' := 0) (bs' := 0) rfl cw_X12_248 is_X12_counts rfl (Nat.le_of_ble_eq_true rfl) ⟨Nat.le_of_ble_eq_true rfl, Nat.le_of_ble_eq_true rfl⟩ ⟨Nat.le_of_ble_eq_true rfl, Nat.le_of_ble_eq_true rfl⟩ (As := [.int (nI i)]) (c_mcounts (Q := fun o G1 => o = .inl (some (.int (bI (cnts i)))) ∧ G1 = hup (hup G 153 (LA 13 q)) 154 (LA 13 r)) hi ⟨rfl, rfl⟩) (fun o G1 h => ?_) (fun E G' h => by cases h.1)
    obtain ⟨h, rfl⟩ := h
    cases h
    have hbit := rK_bit (k := sft key at9) hkb' hi
    rw [← hR] at hbit
    refine V_if_eqB rfl (fun z => ?_) (fun z => ?_)
    · refine V_lconst (v := lN 0) rfl (by decide) ?_
      refine tl 0 ?_
      rw [hbit, z]; rfl
    · refine V_aload rfl (by first | rfl | assumption) ?_
      refine V_iload rfl (by first | rfl | assumption) ?_
      refine V_iload rfl (by first | rfl | assumption) ?_
      refine V_callS (M' := mX12_bitOf) (mc := 0) (ms := 0) (bc' := 0) (bs' := 0) rfl cw_X12_174 is_X12_bitOf rfl (Nat.le_of_ble_eq_true rfl) ⟨Nat.le_of_ble_eq_true rfl, Nat.le_of_ble_eq_true rfl⟩ ⟨Nat.le_of_ble_eq_true rfl, Nat.le_of_ble_eq_true rfl⟩ (As := [.ref kc, .int (nI at9), .int (nI i)]) (c_mbit (f := key) (N := Nk) (Q := fun o G1 => o = .inl (some (.int (nI (R / 2 ^ i % 2)))) ∧ G1 = hup (hup G 153 (LA 13 q)) 154 (LA 13 r)) ((hup_ne (by omega)).trans ((hup_ne (by omega)).trans gk)) hkb (by omega) (by omega) hNk.2 ⟨by rw [hbit, z]; rfl, rfl⟩) (fun o G1 h => ?_) (fun E G' h => by cases h.1)
      obtain ⟨h, rfl⟩ := h
      cases h
      have hb2 : R / 2 ^ i % 2 < 2 := Nat.mod_lt _ (by decide)
      refine V_i2lN rfl (by first | omega | decide) ?_
      refine V_goto rfl ?_
      exact tl _ rfl
  rintro lc G' ⟨l0, l1, l2, l3, l4, l5, l6, r, hr, rfl⟩
  have hRl : R < 2 ^ 128 := by
    rw [hR]
    unfold rK
    have : vs 256 (ck (sft key at9)) 16 < 256 ^ 16 := vs_lt (by decide) (fun j _ => by
      unfold ck
      split
      · exact Nat.lt_of_le_of_lt Nat.and_le_left (hkb' j)
      · split
        · exact Nat.lt_of_le_of_lt Nat.and_le_left (hkb' j)
        · exact hkb' j)
    exact this
  have hrb : ∀ k, k < 13 → r k < 2 ^ 10 := fun k hk => by rw [hr k hk]; exact dgt_lt 10 R 128 k
  have hrv : vs (2 ^ 10) r 13 = R := by
    rw [vs_congr hr, dgt_v, Nat.mod_eq_of_lt hRl, Nat.mod_eq_of_lt (by omega)]
  clear hr
  refine V_iload rfl (by first | rfl | assumption) ?_
  refine V_sipush (v := nI 128) rfl (by decide) ?_
  refine V_icmp_geN rfl (by decide) (by decide) (fun _ => ?_) (fun h => absurd (Nat.le_refl _) h)
  refine V_iconst (v := nI 0) rfl (by decide) ?_
  refine V_istore rfl (by decide) ?_
  have LP := V_loop (K := K) (bc := 0) (bs := 0) (M := mX12_seal) (head := 105) (Q := Q) ((n + 15) / 16) (fun i lc G' => lc 0 = some (.ref 140) ∧ lc 1 = some (.ref a) ∧ lc 2 = some (.int (nI s)) ∧ lc 3 = some (.int (nI n)) ∧ lc 4 = some (.ref kc) ∧ lc 5 = some (.int (nI at9)) ∧ lc 6 = some (.int (nI (16 * i))) ∧ ∃ q w, (∀ k, k < 13 → q k < 2 ^ 10) ∧ vs (2 ^ 10) q 13 % PQ = tq R (sft f s) n i ∧ FP PT G G' ∧ G'.1 153 = some (LA 13 q) ∧ G'.1 154 = some (LA 13 r) ∧ G'.1 155 = some (LA 26 w) ∧ G'.1 156 = some (YA 16 o)) ?_ ?_
  · refine LP 0 _ _ (Nat.zero_le _) ⟨l0, l1, l2, l3, l4, l5, rfl, q, w0, fun k hk => by rw [(hz k hk).1]; decide, ?_, (FP.rf.hup (by decide)).hup (by decide), by repeat (first | exact hup_eq | assumption | refine Eq.trans (hup_ne (by first | assumption | exact Ne.symm (by assumption) | decide | omega)) ?_), by repeat (first | exact hup_eq | assumption | refine Eq.trans (hup_ne (by first | assumption | exact Ne.symm (by assumption) | decide | omega)) ?_), by repeat (first | exact hup_eq | assumption | refine Eq.trans (hup_ne (by first | assumption | exact Ne.symm (by assumption) | decide | omega)) ?_), by repeat (first | exact hup_eq | assumption | refine Eq.trans (hup_ne (by first | assumption | exact Ne.symm (by assumption) | decide | omega)) ?_)⟩
    rw [vs_congr (w' := fun _ => 0) (fun k hk => (hz k hk).1), vs_zero]
    rfl
  · rintro i lc G' hi ⟨l0, l1, l2, l3, l4, l5, l6, q, w, hq1, hq2, F, k153, k154, k155, k156⟩ ih
    have k140 := F.get (by decide) g140
    have ka := F.get (j := a) (by rintro (q | q | q | q) <;> omega) ga
    have hin : 16 * i < n := by omega
    obtain ⟨mm, hmm⟩ : ∃ mm, mm = m16 n i := ⟨_, rfl⟩
    have hm1 : mm ≤ 16 ∧ 16 * i + mm ≤ n ∧ mm = (if n - 16 * i < 16 then n - 16 * i else 16) := by
      rw [hmm]
      unfold m16
      split <;> omega
    have t129 : V K 0 0 mX12_seal 129 lc [.int (nI mm)] G' Q := by
      obtain ⟨MM, hMM⟩ : ∃ MM, MM = vs 256 (fun j => sft f s (16 * i + j)) mm + 256 ^ mm := ⟨_, rfl⟩
      have hfb : ∀ j, (fun j => sft f s (16 * i + j)) j < 256 := fun j => hf _
      have hbit : ∀ t, t ≤ 8 * mm → MM / 2 ^ t % 2 = if t = 8 * mm then 1 else f (s + (16 * i + t / 8)) / 2 ^ (t % 8) % 2 := fun t ht => by rw [hMM]; exact blk_bit hfb ht
      have hMl : MM < 2 ^ (8 * mm + 1) := by rw [hMM]; exact blk_lt hfb
      refine V_istore rfl (by decide) ?_
      refine V_iconst (v := nI 0) rfl (by decide) ?_
      refine V_istore rfl (by decide) ?_
      have LP2 := V_loop (K := K) (bc := 0) (bs := 0) (M := mX12_seal) (head := 134) (Q := Q) (8 * mm + 1) (fun t lc G2 => lc 0 = some (.ref 140) ∧ lc 1 = some (.ref a) ∧ lc 2 = some (.int (nI s)) ∧ lc 3 = some (.int (nI n)) ∧ lc 4 = some (.ref kc) ∧ lc 5 = some (.int (nI at9)) ∧ lc 6 = some (.int (nI (16 * i))) ∧ lc 7 = some (.int (nI mm)) ∧ lc 8 = some (.int (nI t)) ∧ ∃ z, (∀ k, k < 13 → z k = q k + dgt 10 MM t k) ∧ G2 = hup G' 153 (LA 13 z)) ?_ ?_
      · exact LP2 0 _ _ (Nat.zero_le _) ⟨l0, l1, l2, l3, l4, l5, l6, rfl, rfl, q, fun k _ => by rw [dgt_0]; rfl, (hup_same k153).symm⟩
      · rintro t lc G2 ht ⟨l0, l1, l2, l3, l4, l5, l6, l7, l8, z, hz, rfl⟩ ih2
        have tl : ∀ b : Nat, b = MM / 2 ^ t % 2 → V K 0 0 mX12_seal 169 lc [.long (lN b)] (hup G' 153 (LA 13 z)) Q := by
          rintro b rfl
          refine V_lstore rfl (by decide) ?_
          refine V_aload_n rfl (by first | rfl | assumption) ?_
          refine V_getf rfl rfl rfl (by repeat (first | exact hup_eq | assumption | refine Eq.trans (hup_ne (by first | assumption | exact Ne.symm (by assumption) | decide | omega)) ?_)) (by first | rfl | assumption) ?_
          refine V_iload rfl (by first | rfl | assumption) ?_
          refine V_bipush (v := nI 10) rfl (by decide) ?_
          refine V_idivN rfl (by first | omega | decide) (by first | omega | decide) (by first | omega | decide) ?_
          refine V_aload_n rfl (by first | rfl | assumption) ?_
          refine V_getf rfl rfl rfl (by repeat (first | exact hup_eq | assumption | refine Eq.trans (hup_ne (by first | assumption | exact Ne.symm (by assumption) | decide | omega)) ?_)) (by first | rfl | assumption) ?_
          refine V_iload rfl (by first | rfl | assumption) ?_
          refine V_bipush (v := nI 10) rfl (by decide) ?_
          refine V_idivN rfl (by first | omega | decide) (by first | omega | decide) (by first | omega | decide) ?_
          refine V_laldN rfl (by repeat (first | exact hup_eq | assumption | refine Eq.trans (hup_ne (by first | assumption | exact Ne.symm (by assumption) | decide | omega)) ?_)) rfl (by first | omega | decide) (by first | omega | decide) ?_
          rw [hz _ (by omega)]
          refine V_lload rfl (by first | rfl | assumption) (by first | rfl | assumption) ?_
          refine V_iload rfl (by first | rfl | assumption) ?_
          refine V_bipush (v := nI 10) rfl (by decide) ?_
          refine V_iremN rfl (by first | omega | decide) (by first | omega | decide) (by first | omega | decide) ?_
          refine V_lshlN rfl (by first | omega | decide) ?_
          refine V_laddN rfl ?_
          refine V_lastN rfl (by repeat (first | exact hup_eq | assumption | refine Eq.trans (hup_ne (by first | assumption | exact Ne.symm (by assumption) | decide | omega)) ?_)) rfl (by first | omega | decide) (by first | omega | decide) ?_
          refine V_iincN (d := 1) rfl (by first | rfl | assumption) (by decide) (by decide) ?_
          refine V_goto rfl ?_
          rw [hup_hup]
          refine ih2 _ _ ⟨l0, l1, l2, l3, l4, l5, l6, l7, rfl, _, fun k hk => ?_, rfl⟩
          rw [dgt_s (by decide)]
          by_cases e : k = t / 10
          · subst e; rw [updN_eq, if_pos rfl, Nat.add_assoc]
          · rw [updN_ne e, if_neg e]; exact hz k hk
        refine V_iload rfl (by first | rfl | assumption) ?_
        refine V_bipush (v := nI 8) rfl (by decide) ?_
        refine V_iload rfl (by first | rfl | assumption) ?_
        refine V_imulN rfl ?_
        refine V_icmp_gtN rfl (by omega) (by omega) (fun h => absurd h (by omega)) (fun _ => ?_)
        refine V_iload rfl (by first | rfl | assumption) ?_
        refine V_bipush (v := nI 8) rfl (by decide) ?_
        refine V_iload rfl (by first | rfl | assumption) ?_
        refine V_imulN rfl ?_
        refine V_icmp_neN rfl (by omega) (by omega) (fun z1 => ?_) (fun z1 => ?_)
        · refine V_aload_n rfl (by first | rfl | assumption) ?_
          refine V_iload_n rfl (by first | rfl | assumption) ?_
          refine V_iload rfl (by first | rfl | assumption) ?_
          refine V_iaddN rfl ?_
          refine V_iload rfl (by first | rfl | assumption) ?_
          refine V_callS (M' := mX12_bitOf) (mc := 0) (ms := 0) (bc' := 0) (bs' := 0) rfl cw_X12_174 is_X12_bitOf rfl (Nat.le_of_ble_eq_true rfl) ⟨Nat.le_of_ble_eq_true rfl, Nat.le_of_ble_eq_true rfl⟩ ⟨Nat.le_of_ble_eq_true rfl, Nat.le_of_ble_eq_true rfl⟩ (As := [.ref a, .int (nI (s + 16 * i)), .int (nI t)]) (c_mbit (f := f) (N := N) (Q := fun o G1 => o = .inl (some (.int (nI (MM / 2 ^ t % 2)))) ∧ G1 = hup G' 153 (LA 13 z)) ((hup_ne (by omega)).trans ka) hf (by omega) (by omega) hN ⟨by rw [hbit t (by omega), if_neg z1, Nat.add_assoc s], rfl⟩) (fun o G1 h => ?_) (fun E G' h => by cases h.1)
          obtain ⟨h, rfl⟩ := h
          cases h
          have hb2 : MM / 2 ^ t % 2 < 2 := Nat.mod_lt _ (by decide)
          refine V_i2lN rfl (by first | omega | decide) ?_
          exact tl _ rfl
        · refine V_lconst (v := lN 1) rfl (by decide) ?_
          refine V_goto rfl ?_
          exact tl 1 (by rw [hbit t (by omega), if_pos z1])
      · rintro lc G2 ⟨l0, l1, l2, l3, l4, l5, l6, l7, l8, z, hz, rfl⟩
        refine V_iload rfl (by first | rfl | assumption) ?_
        refine V_bipush (v := nI 8) rfl (by decide) ?_
        refine V_iload rfl (by first | rfl | assumption) ?_
        refine V_imulN rfl ?_
        refine V_icmp_gtN rfl (by omega) (by omega) (fun _ => ?_) (fun h => absurd (by omega) h)
        have hzv : vs (2 ^ 10) z 13 = vs (2 ^ 10) q 13 + MM := by
          have h129 : 2 ^ (8 * mm + 1) ≤ 2 ^ 129 := Nat.pow_le_pow_right (by decide) (by omega)
          rw [vs_congr hz, vs_add, show vs (2 ^ 10) (fun i_1 => dgt 10 MM (8 * mm + 1) i_1) 13 = _ from dgt_v, Nat.mod_eq_of_lt hMl, Nat.mod_eq_of_lt (by omega)]
        refine V_aload_n rfl (by first | rfl | assumption) ?_
        refine V_callV (M' := mX12_tagCarry) (mc := 0) (ms := 0) (bc' := 0) (bs' := 0) rfl cw_X12_245 iv_X12_tagCarry (by repeat (first | exact hup_eq | assumption | refine Eq.trans (hup_ne (by first | assumption | exact Ne.symm (by assumption) | decide | omega)) ?_)) rfl rfl (Nat.le_of_ble_eq_true rfl) ⟨Nat.le_of_ble_eq_true rfl, Nat.le_of_ble_eq_true rfl⟩ ⟨Nat.le_of_ble_eq_true rfl, Nat.le_of_ble_eq_true rfl⟩ (As := []) (c_mtcarry (x := z) (Q := fun o G3 => o = .inl none ∧ ∃ y, (∀ k, k < 13 → y k < 2 ^ 10) ∧ vs (2 ^ 10) y 13 % PQ = vs (2 ^ 10) z 13 % PQ ∧ G3 = hup G' 153 (LA 13 y)) (by repeat (first | exact hup_eq | assumption | refine Eq.trans (hup_ne (by first | assumption | exact Ne.symm (by assumption) | decide | omega)) ?_)) (by repeat (first | exact hup_eq | assumption | refine Eq.trans (hup_ne (by first | assumption | exact Ne.symm (by assumption) | decide | omega)) ?_)) (fun k hk => by have h1 := hq1 k hk; have h2 := dgt_lt 10 MM (8 * mm + 1) k; rw [hz k hk]; omega) (fun y h1 h2 => ⟨rfl, y, h1, h2, by rw [hup_hup]⟩)) (fun o G3 h => ?_) (fun E G' h => by cases h.1)
        obtain ⟨h, y, hy1, hy2, rfl⟩ := h
        cases h
        refine V_aload_n rfl (by first | rfl | assumption) ?_
        refine V_callV (M' := mX12_tagTimes) (mc := 0) (ms := 0) (bc' := 0) (bs' := 0) rfl cw_X12_252 iv_X12_tagTimes (by repeat (first | exact hup_eq | assumption | refine Eq.trans (hup_ne (by first | assumption | exact Ne.symm (by assumption) | decide | omega)) ?_)) rfl rfl (Nat.le_of_ble_eq_true rfl) ⟨Nat.le_of_ble_eq_true rfl, Nat.le_of_ble_eq_true rfl⟩ ⟨Nat.le_of_ble_eq_true rfl, Nat.le_of_ble_eq_true rfl⟩ (As := []) (c_mttimes (x := y) (y := r) (w0 := w) (Q := fun o G3 => o = .inl none ∧ ∃ w2 v, (∀ k, k < 13 → v k < 2 ^ 10) ∧ vs (2 ^ 10) v 13 % PQ = (vs (2 ^ 10) y 13 * vs (2 ^ 10) r 13) % PQ ∧ G3 = hup (hup (hup G' 153 (LA 13 y)) 155 (LA 26 w2)) 153 (LA 13 v)) (by repeat (first | exact hup_eq | assumption | refine Eq.trans (hup_ne (by first | assumption | exact Ne.symm (by assumption) | decide | omega)) ?_)) (by repeat (first | exact hup_eq | assumption | refine Eq.trans (hup_ne (by first | assumption | exact Ne.symm (by assumption) | decide | omega)) ?_)) (by repeat (first | exact hup_eq | assumption | refine Eq.trans (hup_ne (by first | assumption | exact Ne.symm (by assumption) | decide | omega)) ?_)) (by repeat (first | exact hup_eq | assumption | refine Eq.trans (hup_ne (by first | assumption | exact Ne.symm (by assumption) | decide | omega)) ?_)) hy1 hrb (fun w2 v h1 h2 => ⟨rfl, w2, v, h1, h2, rfl⟩)) (fun o G3 h => ?_) (fun E G' h => by cases h.1)
        obtain ⟨h, w2, v, hv1, hv2, rfl⟩ := h
        cases h
        refine V_iload rfl (by first | rfl | assumption) ?_
        refine V_bipush (v := nI 16) rfl (by decide) ?_
        refine V_iaddN rfl ?_
        refine V_istore rfl (by decide) ?_
        refine V_goto rfl ?_
        refine ih _ _ ⟨l0, l1, l2, l3, l4, l5, by rw [Nat.mul_add]; rfl, v, w2, hv1, ?_, ((F.hup (by decide)).hup (by decide)).hup (by decide), by repeat (first | exact hup_eq | assumption | refine Eq.trans (hup_ne (by first | assumption | exact Ne.symm (by assumption) | decide | omega)) ?_), by repeat (first | exact hup_eq | assumption | refine Eq.trans (hup_ne (by first | assumption | exact Ne.symm (by assumption) | decide | omega)) ?_), by repeat (first | exact hup_eq | assumption | refine Eq.trans (hup_ne (by first | assumption | exact Ne.symm (by assumption) | decide | omega)) ?_), by repeat (first | exact hup_eq | assumption | refine Eq.trans (hup_ne (by first | assumption | exact Ne.symm (by assumption) | decide | omega)) ?_)⟩
        show _ = (tq R (sft f s) n i + (vs 256 (fun j => sft f s (16 * i + j)) (m16 n i) + 256 ^ m16 n i)) * R % PQ
        rw [hv2, hrv, ← hmm, ← hMM, ← hq2]
        rw [Nat.mul_mod, hy2, hzv, ← Nat.mul_mod, Nat.mul_mod, Nat.add_mod, ← Nat.mul_mod]
        conv => rhs; rw [Nat.mul_mod, Nat.add_mod, Nat.mod_mod, ← Nat.mul_mod]
    refine V_iload rfl (by first | rfl | assumption) ?_
    refine V_iload_n rfl (by first | rfl | assumption) ?_
    refine V_icmp_geN rfl (by omega) (by omega) (fun h => absurd h (by omega)) (fun _ => ?_)
    refine V_iload_n rfl (by first | rfl | assumption) ?_
    refine V_iload rfl (by first | rfl | assumption) ?_
    refine V_isubN rfl (by first | omega | decide) ?_
    refine V_bipush (v := nI 16) rfl (by decide) ?_
    refine V_icmp_geN rfl (by omega) (by omega) (fun h => ?_) (fun h => ?_)
    · refine V_bipush (v := nI 16) rfl (by decide) ?_
      rw [show mm = 16 by have := hm1.2.2; rw [if_neg (by omega)] at this; exact this] at t129
      exact t129
    · rw [show mm = n - 16 * i by have := hm1.2.2; rw [if_pos (by omega)] at this; exact this] at t129
      refine V_iload_n rfl (by first | rfl | assumption) ?_
      refine V_iload rfl (by first | rfl | assumption) ?_
      refine V_isubN rfl (by first | omega | decide) ?_
      refine V_goto rfl ?_
      exact t129
  · rintro lc G' ⟨l0, l1, l2, l3, l4, l5, l6, q, w, hq1, hq2, F, k153, k154, k155, k156⟩
    have k140 := F.get (by decide) g140
    have kk := F.get (j := kc) (by rintro (q | q | q | q) <;> omega) gk
    refine V_iload rfl (by first | rfl | assumption) ?_
    refine V_iload_n rfl (by first | rfl | assumption) ?_
    refine V_icmp_geN rfl (by omega) (by omega) (fun _ => ?_) (fun h => absurd (by omega) h)
    refine V_mseal_set k140 k153 hq1 l0 (fun lc' z e0 e4 e5 hz1 hz2 => ?_)
    refine V_mseal_out (V0 := tq R (sft f s) n ((n + 15) / 16)) (by repeat (first | exact hup_eq | assumption | refine Eq.trans (hup_ne (by first | assumption | exact Ne.symm (by assumption) | decide | omega)) ?_)) hup_eq (by repeat (first | exact hup_eq | assumption | refine Eq.trans (hup_ne (by first | assumption | exact Ne.symm (by assumption) | decide | omega)) ?_)) ho ((hup_ne (by omega)).trans kk) (by omega) hkb hNk hz1 (hz2.trans hq2) (e0.trans l0) (e4.trans l4) (e5.trans l5) (fun t h1 h2 => ?_)
    refine hq _ t ((F.hup (by decide)).hup (by decide)) ⟨⟨z, by repeat (first | exact hup_eq | assumption | refine Eq.trans (hup_ne (by first | assumption | exact Ne.symm (by assumption) | decide | omega)) ?_)⟩, ⟨r, by repeat (first | exact hup_eq | assumption | refine Eq.trans (hup_ne (by first | assumption | exact Ne.symm (by assumption) | decide | omega)) ?_)⟩, ⟨w, by repeat (first | exact hup_eq | assumption | refine Eq.trans (hup_ne (by first | assumption | exact Ne.symm (by assumption) | decide | omega)) ?_)⟩, t, hup_eq, h1⟩ hup_eq h1 (fun j hj => ?_)
    rw [h2 j hj]
    unfold TAG
    rw [← hR]
set_option maxHeartbeats 4000000 in
theorem c_mhide {a N s m ky n c : Nat} {f kf qt : Nat → Nat} (hqt : qtO qt) (g140 : G.1 140 = some (MO th ta os hs ps rs)) (hsm : sM G) (g160 : G.1 160 = some (YA 256 kf)) (hkf : ∀ j, kf j < 256) (hky : ky + 32 ≤ 256) (ga : G.1 a = some (YA N f)) (ha : a = 178 ∨ a = 181) (hs9 : s + m ≤ N) (hN : N < 2 ^ 20) (hf : ∀ j, f j < 256) (hn : n < 2 ^ 63) (hc : c < 2)
    (hq : ∀ G', FP (fun j => PS j ∨ j = a) G G' → sM G' → G'.1 a = some (YA N (ovw f s m (fun j => f (s + j) ^^^ STRM qt (sft kf ky) n (c + j / 64) (j % 64)))) → Q (.inl none) G') : C K 0 0 mX12_hide [.ref 140, .ref a, .int (nI s), .int (nI m), .int (nI ky), .long (lN n), .int (nI c)] G Q := by
  refine C_of okX12_hide (Nat.le_of_ble_eq_true rfl) ?_
  refine V_iconst (v := nI 0) rfl (by decide) ?_
  refine V_istore rfl (by decide) ?_
  have LP := V_loop (K := K) (bc := 0) (bs := 0) (M := mX12_hide) (head := 3) (Q := Q) m (fun i lc G' => lc 0 = some (.ref 140) ∧ lc 1 = some (.ref a) ∧ lc 2 = some (.int (nI s)) ∧ lc 3 = some (.int (nI m)) ∧ lc 4 = some (.int (nI ky)) ∧ lc 5 = some (.long (lN n)) ∧ lc 6 = some kmk ∧ lc 7 = some (.int (nI c)) ∧ lc 8 = some (.int (nI i)) ∧ FP (fun j => PS j ∨ j = a) G G' ∧ sM G' ∧ G'.1 a = some (YA N (ovw f s i (fun j => f (s + j) ^^^ STRM qt (sft kf ky) n (c + j / 64) (j % 64)))) ∧ (i % 64 ≠ 0 → ∃ t, G'.1 152 = some (YA 64 t) ∧ (∀ j, t j < 256) ∧ ∀ j, j < 64 → t j = STRM qt (sft kf ky) n (c + i / 64) j)) ?_ ?_
  · exact LP 0 _ _ (Nat.zero_le _) ⟨rfl, rfl, rfl, rfl, rfl, rfl, rfl, rfl, rfl, FP.rf, hsm, by rw [ovw_0]; exact ga, fun h => absurd rfl h⟩
  · rintro i lc G' hi ⟨l0, l1, l2, l3, l4, l5, l6, l7, l8, F, sm, ka, hst⟩ ih
    have k140 := F.get (j := 140) (by rintro ((q | q | q) | q) <;> omega) g140
    have k160 := F.get (j := 160) (by rintro ((q | q | q) | q) <;> omega) g160
    have t37 : ∀ (G2 : kG) (t : Nat → Nat), FP (fun j => PS j ∨ j = a) G G2 → sM G2 → G2.1 140 = some (MO th ta os hs ps rs) → G2.1 a = some (YA N (ovw f s i (fun j => f (s + j) ^^^ STRM qt (sft kf ky) n (c + j / 64) (j % 64)))) → G2.1 152 = some (YA 64 t) → (∀ j, t j < 256) → (∀ j, j < 64 → t j = STRM qt (sft kf ky) n (c + i / 64) j) → V K 0 0 mX12_hide 37 lc [] G2 Q := by
      intro G2 t F2 sm2 k140 ka2 k152 ht1 ht2
      refine V_aload_n rfl (by first | rfl | assumption) ?_
      refine V_iload_n rfl (by first | rfl | assumption) ?_
      refine V_iload rfl (by first | rfl | assumption) ?_
      refine V_iaddN rfl ?_
      refine V_aload_n rfl (by first | rfl | assumption) ?_
      refine V_iload_n rfl (by first | rfl | assumption) ?_
      refine V_iload rfl (by first | rfl | assumption) ?_
      refine V_iaddN rfl ?_
      refine V_baldB rfl (by repeat (first | exact hup_eq | assumption | refine Eq.trans (hup_ne (by first | assumption | exact Ne.symm (by assumption) | decide | omega)) ?_)) rfl (by first | omega | decide) (by first | omega | decide) ?_
      refine V_aload_n rfl (by first | rfl | assumption) ?_
      refine V_getf rfl rfl rfl (by repeat (first | exact hup_eq | assumption | refine Eq.trans (hup_ne (by first | assumption | exact Ne.symm (by assumption) | decide | omega)) ?_)) (by first | rfl | assumption) ?_
      refine V_iload rfl (by first | rfl | assumption) ?_
      refine V_bipush (v := nI 64) rfl (by decide) ?_
      refine V_iremN rfl (by first | omega | decide) (by first | omega | decide) (by first | omega | decide) ?_
      refine V_baldB rfl (by repeat (first | exact hup_eq | assumption | refine Eq.trans (hup_ne (by first | assumption | exact Ne.symm (by assumption) | decide | omega)) ?_)) rfl (by first | omega | decide) (by first | omega | decide) ?_
      refine V_ixor rfl ?_
      refine V_i2b rfl ?_
      refine V_bastM rfl ka2 rfl (by omega) (by omega) ?_
      rw [lw_8, lw_xor, lw_B, lw_B, ovw_out (Or.inr (Nat.le_refl _)), Nat.mod_eq_of_lt (hf _), Nat.mod_eq_of_lt (ht1 _), ht2 _ (by omega), ovw_s' (g := fun j => f (s + j) ^^^ STRM qt (sft kf ky) n (c + j / 64) (j % 64)) (by rfl)]
      refine V_iincN (d := 1) rfl (by first | rfl | assumption) (by decide) (by decide) ?_
      refine V_goto rfl ?_
      have k152' : (hup G2 a (YA N (ovw f s (i + 1) (fun j => f (s + j) ^^^ STRM qt (sft kf ky) n (c + j / 64) (j % 64))))).1 152 = some (YA 64 t) := (hup_ne (by omega)).trans k152
      refine ih _ _ ⟨l0, l1, l2, l3, l4, l5, l6, l7, rfl, F2.hup (Or.inr rfl), ?_, hup_eq, fun h => ⟨t, k152', ht1, fun j hj => by rw [ht2 j hj, show (i + 1) / 64 = i / 64 by omega]⟩⟩
      obtain ⟨⟨a1, a2⟩, ⟨b1, b2⟩, c1, c2, c3⟩ := sm2
      exact ⟨⟨a1, (hup_ne (by omega)).trans a2⟩, ⟨b1, (hup_ne (by omega)).trans b2⟩, t, k152', ht1⟩
    refine V_iload rfl (by first | rfl | assumption) ?_
    refine V_iload_n rfl (by first | rfl | assumption) ?_
    refine V_icmp_geN rfl (by omega) (by omega) (fun h => absurd h (by omega)) (fun _ => ?_)
    refine V_iload rfl (by first | rfl | assumption) ?_
    refine V_bipush (v := nI 64) rfl (by decide) ?_
    refine V_iremN rfl (by first | omega | decide) (by first | omega | decide) (by first | omega | decide) ?_
    refine V_if_neN rfl (by omega) (fun z => ?_) (fun z => ?_)
    · obtain ⟨t, h1, h2, h3⟩ := hst z
      exact t37 G' t F sm k140 ka h1 h2 h3
    · refine V_aload_n rfl (by first | rfl | assumption) ?_
      refine V_aload_n rfl (by first | rfl | assumption) ?_
      refine V_getf rfl rfl rfl (by repeat (first | exact hup_eq | assumption | refine Eq.trans (hup_ne (by first | assumption | exact Ne.symm (by assumption) | decide | omega)) ?_)) (by first | rfl | assumption) ?_
      refine V_iload rfl (by first | rfl | assumption) ?_
      refine V_lload rfl (by first | rfl | assumption) (by first | rfl | assumption) ?_
      refine V_iload rfl (by first | rfl | assumption) ?_
      refine V_iload rfl (by first | rfl | assumption) ?_
      refine V_bipush (v := nI 64) rfl (by decide) ?_
      refine V_idivN rfl (by first | omega | decide) (by first | omega | decide) (by first | omega | decide) ?_
      refine V_iaddN rfl ?_
      refine V_callV (M' := mX12_makeStream) (mc := 0) (ms := 0) (bc' := 0) (bs' := 0) rfl cw_X12_237 iv_X12_makeStream (by repeat (first | exact hup_eq | assumption | refine Eq.trans (hup_ne (by first | assumption | exact Ne.symm (by assumption) | decide | omega)) ?_)) rfl rfl (Nat.le_of_ble_eq_true rfl) ⟨Nat.le_of_ble_eq_true rfl, Nat.le_of_ble_eq_true rfl⟩ ⟨Nat.le_of_ble_eq_true rfl, Nat.le_of_ble_eq_true rfl⟩ (As := [.ref 160, .int (nI ky), .long (lN n), .int (nI (c + i / 64))]) (c_mstream (Q := fun o G2 => o = .inl none ∧ ∃ t, FP PS G' G2 ∧ sM G2 ∧ G2.1 152 = some (YA 64 t) ∧ (∀ j, t j < 256) ∧ ∀ j, j < 64 → t j = STRM qt (sft kf ky) n (c + i / 64) j) hqt k140 sm k160 (by decide) ⟨by omega, by decide⟩ hkf hn (fun G2 t h1 h2 h3 h4 h5 => ⟨rfl, t, h1, h2, h3, h4, h5⟩)) (fun o G2 h => ?_) (fun E G' h => by cases h.1)
      obtain ⟨h, t, F2, sm2, h1, h2, h3⟩ := h
      cases h
      exact t37 G2 t (F.trans F2 (fun x hx => Or.inl hx)) sm2 (F2.get (by decide) k140) (F2.get (j := a) (by rintro (q | q | q) <;> omega) ka) h1 h2 h3
  · rintro lc G' ⟨l0, l1, l2, l3, l4, l5, l6, l7, l8, F, sm, ka, hst⟩
    refine V_iload rfl (by first | rfl | assumption) ?_
    refine V_iload_n rfl (by first | rfl | assumption) ?_
    refine V_icmp_geN rfl (by omega) (by omega) (fun _ => ?_) (fun h => absurd (Nat.le_refl _) h)
    exact V_vret rfl rfl (hq _ F sm ka)
theorem c_msealP {a N s m ky n : Nat} {f kf qt : Nat → Nat} (hqt : qtO qt) (g140 : G.1 140 = some (MO th ta os hs ps rs)) (hsm : sM G) (htm : tM G) (g160 : G.1 160 = some (YA 256 kf)) (hkf : ∀ j, kf j < 256) (hky : ky + 32 ≤ 256) (ga : G.1 a = some (YA N f)) (ha : a = 178 ∨ a = 181) (hs9 : s + m ≤ N) (hN : N < 2 ^ 20) (hf : ∀ j, f j < 256) (hn : n < 2 ^ 63)
    (hq : ∀ G' t, FP (fun j => PS j ∨ PT j) G G' → sM G' → tM G' → G'.1 156 = some (YA 16 t) → (∀ j, t j < 256) → (∀ j, j < 16 → t j = TAG (sft f s) m (STRM qt (sft kf ky) n 0) j) → Q (.inl none) G') : C K 0 0 mX12_sealPacket [.ref 140, .ref a, .int (nI s), .int (nI m), .int (nI ky), .long (lN n)] G Q := by
  refine C_of okX12_sealPacket (Nat.le_of_ble_eq_true rfl) ?_
  refine V_aload_n rfl (by first | rfl | assumption) ?_
  refine V_aload_n rfl (by first | rfl | assumption) ?_
  refine V_getf rfl rfl rfl (by repeat (first | exact hup_eq | assumption | refine Eq.trans (hup_ne (by first | assumption | exact Ne.symm (by assumption) | decide | omega)) ?_)) (by first | rfl | assumption) ?_
  refine V_iload rfl (by first | rfl | assumption) ?_
  refine V_lload rfl (by first | rfl | assumption) (by first | rfl | assumption) ?_
  refine V_iconst (v := nI 0) rfl (by decide) ?_
  refine V_callV (M' := mX12_makeStream) (mc := 0) (ms := 0) (bc' := 0) (bs' := 0) rfl cw_X12_237 iv_X12_makeStream (by repeat (first | exact hup_eq | assumption | refine Eq.trans (hup_ne (by first | assumption | exact Ne.symm (by assumption) | decide | omega)) ?_)) rfl rfl (Nat.le_of_ble_eq_true rfl) ⟨Nat.le_of_ble_eq_true rfl, Nat.le_of_ble_eq_true rfl⟩ ⟨Nat.le_of_ble_eq_true rfl, Nat.le_of_ble_eq_true rfl⟩ (As := [.ref 160, .int (nI ky), .long (lN n), .int (nI 0)]) (c_mstream (Q := fun o G2 => o = .inl none ∧ ∃ t, FP PS G G2 ∧ sM G2 ∧ G2.1 152 = some (YA 64 t) ∧ (∀ j, t j < 256) ∧ ∀ j, j < 64 → t j = STRM qt (sft kf ky) n 0 j) hqt g140 hsm g160 (by decide) ⟨by omega, by decide⟩ hkf hn (fun G2 t h1 h2 h3 h4 h5 => ⟨rfl, t, h1, h2, h3, h4, h5⟩)) (fun o G2 h => ?_) (fun E G' h => by cases h.1)
  obtain ⟨h, t, F2, sm2, k152, ht1, ht2⟩ := h
  cases h
  have k140 := F2.get (by decide) g140
  have ka := F2.get (j := a) (by rintro (q | q | q) <;> omega) ga
  have htm2 : tM G2 := by
    obtain ⟨⟨a1, a2⟩, ⟨b1, b2⟩, ⟨c1, c2⟩, d1, d2, d3⟩ := htm
    exact ⟨⟨a1, F2.get (by decide) a2⟩, ⟨b1, F2.get (by decide) b2⟩, ⟨c1, F2.get (by decide) c2⟩, d1, F2.get (by decide) d2, d3⟩
  refine V_aload_n rfl (by first | rfl | assumption) ?_
  refine V_aload_n rfl (by first | rfl | assumption) ?_
  refine V_iload_n rfl (by first | rfl | assumption) ?_
  refine V_iload_n rfl (by first | rfl | assumption) ?_
  refine V_aload_n rfl (by first | rfl | assumption) ?_
  refine V_getf rfl rfl rfl (by repeat (first | exact hup_eq | assumption | refine Eq.trans (hup_ne (by first | assumption | exact Ne.symm (by assumption) | decide | omega)) ?_)) (by first | rfl | assumption) ?_
  refine V_iconst (v := nI 0) rfl (by decide) ?_
  refine V_callV (M' := mX12_seal) (mc := 0) (ms := 0) (bc' := 0) (bs' := 0) rfl cw_X12_288 iv_X12_seal (by repeat (first | exact hup_eq | assumption | refine Eq.trans (hup_ne (by first | assumption | exact Ne.symm (by assumption) | decide | omega)) ?_)) rfl rfl (Nat.le_of_ble_eq_true rfl) ⟨Nat.le_of_ble_eq_true rfl, Nat.le_of_ble_eq_true rfl⟩ ⟨Nat.le_of_ble_eq_true rfl, Nat.le_of_ble_eq_true rfl⟩ (As := [.ref a, .int (nI s), .int (nI m), .ref 152, .int (nI 0)]) (c_mseal (Q := fun o G3 => o = .inl none ∧ ∃ t9, FP PT G2 G3 ∧ tM G3 ∧ G3.1 156 = some (YA 16 t9) ∧ (∀ j, t9 j < 256) ∧ ∀ j, j < 16 → t9 j = TAG (sft f s) m (sft t 0) j) k140 htm2 ka (by omega) hs9 hN hf k152 (Or.inr rfl) (by decide) ht1 (fun G2 t h1 h2 h3 h4 h5 => ⟨rfl, t, h1, h2, h3, h4, h5⟩)) (fun o G3 h => ?_) (fun E G' h => by cases h.1)
  obtain ⟨h, t9, F3, tm3, k156, h1, h2⟩ := h
  cases h
  have sm3 : sM G3 := by
    obtain ⟨⟨a1, a2⟩, ⟨b1, b2⟩, c1, c2, c3⟩ := sm2
    exact ⟨⟨a1, F3.get (by decide) a2⟩, ⟨b1, F3.get (by decide) b2⟩, c1, F3.get (by decide) c2, c3⟩
  refine V_vret rfl rfl (hq _ t9 ((F2.sub (fun x hx => Or.inl hx)).trans F3 (fun x hx => Or.inr hx)) sm3 tm3 k156 h1 (fun j hj => ?_))
  rw [h2 j hj]
  refine TAG_congr (fun _ _ => rfl) (fun j hj => ?_) j
  unfold sft
  rw [Nat.zero_add]
  exact ht2 j (by omega)
end MTag3
