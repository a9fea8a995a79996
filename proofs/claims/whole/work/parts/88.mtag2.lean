section MTag2
variable {K : kK} {G : kG} {Q : kO → kG → Prop} {th ta os hs ps rs : Int32}
theorem dgq {x : Nat → Nat} {j : Nat} (hj : j < 16) : cdg 256 x j = vs 256 x 16 / 256 ^ j % 256 := by
  have h := dig_uniq (B := 256) (by decide) (n := 16) (fun k _ => cdg_lt (by decide) x k) (cyr_q (B := 256) (by decide) x 16).2 j hj
  rw [h]
  have e := dig_hi (A := vs 256 x 16 % 256 ^ 16) (m := vs 256 x 16 / 256 ^ 16) (n := 16) hj
  rw [Nat.mul_comm, Nat.mod_add_div] at e
  exact e.symm
theorem tag_byte {V0 : Nat} {k : Nat → Nat} {j : Nat} (hj : j < 16) : cdg 256 (fun j => k (16 + j) + V0 / 256 ^ j % 256) j = (V0 + vs 256 (fun j => k (16 + j)) 16) / 256 ^ j % 256 := by
  rw [dgq hj, vs_add, vs_dgt 256 V0 (by decide)]
  have e := dig_hi (A := V0 % 256 ^ 16 + vs 256 (fun j => k (16 + j)) 16) (m := V0 / 256 ^ 16) (n := 16) hj
  have e2 : V0 % 256 ^ 16 + vs 256 (fun j => k (16 + j)) 16 + V0 / 256 ^ 16 * 256 ^ 16 = V0 + vs 256 (fun j => k (16 + j)) 16 := by
    have := Nat.mod_add_div V0 (256 ^ 16)
    rw [Nat.mul_comm] at this
    omega
  rw [e2] at e
  rw [e, Nat.add_comm (vs 256 _ 16)]
theorem cyr_byte {x : Nat → Nat} (h : ∀ k, x k ≤ 510) : ∀ i, cyr 256 x i ≤ 1
  | 0 => Nat.zero_le _
  | i + 1 => by
    have h1 := cyr_byte h i
    have h2 := h i
    simp only [cyr]
    omega
set_option maxHeartbeats 4000000 in
theorem V_mseal_out {kc at9 Nk V0 : Nat} {key x o : Nat → Nat} {lc : kLo} (g140 : G.1 140 = some (MO th ta os hs ps rs)) (g153 : G.1 153 = some (LA 13 x)) (g156 : G.1 156 = some (YA 16 o)) (ho : ∀ j, o j < 256) (gk : G.1 kc = some (YA Nk key)) (hkc : kc ≠ 156) (hkb : ∀ j, key j < 256) (hNk : at9 + 32 ≤ Nk ∧ Nk < 2 ^ 20) (hx : ∀ k, k < 13 → x k < 2 ^ 10) (hv : vs (2 ^ 10) x 13 = V0) (l0 : lc 0 = some (.ref 140)) (l4 : lc 4 = some (.ref kc)) (l5 : lc 5 = some (.int (nI at9)))
    (hq : ∀ t, (∀ j, t j < 256) → (∀ j, j < 16 → t j = (V0 + vs 256 (fun j => sft key at9 (16 + j)) 16) / 256 ^ j % 256) → Q (.inl none) (hup G 156 (YA 16 t))) : V K 0 0 mX12_seal 333 lc [] G Q := by
  obtain ⟨y, hy⟩ : ∃ y, y = fun j => sft key at9 (16 + j) + V0 / 256 ^ j % 256 := ⟨_, rfl⟩
  have hyb : ∀ k, y k ≤ 510 := fun k => by
    rw [hy]
    have h1 := hkb (at9 + (16 + k))
    have h2 : V0 / 256 ^ k % 256 < 256 := Nat.mod_lt _ (by decide)
    show key (at9 + (16 + k)) + _ ≤ _
    omega
  have hcy := cyr_byte hyb
  refine V_iconst (v := nI 0) rfl (by decide) ?_
  refine V_istore rfl (by decide) ?_
  refine V_iconst (v := nI 0) rfl (by decide) ?_
  refine V_istore rfl (by decide) ?_
  refine V_loop 16 (fun i lc G' => lc 0 = some (.ref 140) ∧ lc 4 = some (.ref kc) ∧ lc 5 = some (.int (nI at9)) ∧ lc 7 = some (.int (nI (cyr 256 y i))) ∧ lc 8 = some (.int (nI i)) ∧ ∃ t, (∀ j, t j < 256) ∧ (∀ j, j < i → t j = cdg 256 y j) ∧ G' = hup G 156 (YA 16 t)) ?_ ?_ 0 _ _ (Nat.zero_le _) ⟨l0, l4, l5, rfl, rfl, o, ho, fun k hk => absurd hk (Nat.not_lt_zero k), (hup_same g156).symm⟩
  · rintro i lc G' hi ⟨l0, l4, l5, l7, l8, t, ht, ht2, rfl⟩ ih
    have hc1 := hcy i
    have hk1 := hkb (at9 + 16 + i)
    refine V_iload rfl (by first | rfl | assumption) ?_
    refine V_bipush (v := nI 16) rfl (by decide) ?_
    refine V_icmp_geN rfl (by omega) (by decide) (fun h => absurd h (by omega)) (fun _ => ?_)
    refine V_iload rfl (by first | rfl | assumption) ?_
    refine V_aload rfl (by first | rfl | assumption) ?_
    refine V_iload rfl (by first | rfl | assumption) ?_
    refine V_bipush (v := nI 16) rfl (by decide) ?_
    refine V_iaddN rfl ?_
    refine V_iload rfl (by first | rfl | assumption) ?_
    refine V_iaddN rfl ?_
    refine V_baldB rfl (by repeat (first | exact hup_eq | assumption | refine Eq.trans (hup_ne (by first | assumption | exact Ne.symm (by assumption) | decide | omega)) ?_)) rfl (by first | omega | decide) (by first | omega | decide) ?_
    refine V_sipush (v := nI 255) rfl (by decide) ?_
    refine V_bandB rfl (by first | assumption | solve_by_elim | exact Nat.mod_lt _ (by decide) | omega) ?_
    refine V_iaddN rfl ?_
    refine V_istore rfl (by decide) ?_
    refine V_bipush (v := nI 8) rfl (by decide) ?_
    refine V_iload rfl (by first | rfl | assumption) ?_
    refine V_imulN rfl ?_
    refine V_istore rfl (by decide) ?_
    refine V_loop 8 (fun m lc G' => lc 0 = some (.ref 140) ∧ lc 4 = some (.ref kc) ∧ lc 5 = some (.int (nI at9)) ∧ lc 8 = some (.int (nI i)) ∧ lc 9 = some (.int (nI (cyr 256 y i + key (at9 + 16 + i) + V0 / 256 ^ i % 2 ^ m))) ∧ lc 10 = some (.int (nI (8 * i + m))) ∧ G' = hup G 156 (YA 16 t)) ?_ ?_ 0 _ _ (Nat.zero_le _) ⟨l0, l4, l5, l8, by rw [Nat.pow_zero, Nat.mod_one]; rfl, rfl, rfl⟩
    · rintro m lc G' hm ⟨l0, l4, l5, l8, l9, l10, rfl⟩ ih2
      have hb : x ((8 * i + m) / 10) < 2 ^ 10 := hx _ (by omega)
      have hbit : x ((8 * i + m) / 10) / 2 ^ ((8 * i + m) % 10) % 2 = V0 / 256 ^ i / 2 ^ m % 2 := by
        rw [dig_bit (w := 10) (N := 13) (by decide) hx (by omega), hv, Nat.div_div_eq_div_mul, show (256 : Nat) ^ i = 2 ^ (8 * i) by rw [Nat.pow_mul], ← Nat.pow_add]
      refine V_iload rfl (by first | rfl | assumption) ?_
      refine V_bipush (v := nI 8) rfl (by decide) ?_
      refine V_iload rfl (by first | rfl | assumption) ?_
      refine V_imulN rfl ?_
      refine V_bipush (v := nI 8) rfl (by decide) ?_
      refine V_iaddN rfl ?_
      refine V_icmp_geN rfl (by omega) (by omega) (fun h => absurd h (by omega)) (fun _ => ?_)
      refine V_iload rfl (by first | rfl | assumption) ?_
      refine V_aload_n rfl (by first | rfl | assumption) ?_
      refine V_getf rfl rfl rfl (by repeat (first | exact hup_eq | assumption | refine Eq.trans (hup_ne (by first | assumption | exact Ne.symm (by assumption) | decide | omega)) ?_)) (by first | rfl | assumption) ?_
      refine V_iload rfl (by first | rfl | assumption) ?_
      refine V_bipush (v := nI 10) rfl (by decide) ?_
      refine V_idivN rfl (by first | omega | decide) (by first | omega | decide) (by first | omega | decide) ?_
      refine V_laldN rfl (by repeat (first | exact hup_eq | assumption | refine Eq.trans (hup_ne (by first | assumption | exact Ne.symm (by assumption) | decide | omega)) ?_)) rfl (by first | omega | decide) (by first | omega | decide) ?_
      refine V_iload rfl (by first | rfl | assumption) ?_
      refine V_bipush (v := nI 10) rfl (by decide) ?_
      refine V_iremN rfl (by first | omega | decide) (by first | omega | decide) (by first | omega | decide) ?_
      refine V_lshrN' rfl (by first | omega | decide) (by first | omega | decide) ?_
      refine V_lconst (v := lN 1) rfl (by decide) ?_
      refine V_landN 1 rfl (by decide) (by decide) (by have : x ((8 * i + m) / 10) / 2 ^ ((8 * i + m) % 10) ≤ x ((8 * i + m) / 10) := Nat.div_le_self _ _; omega) ?_
      rw [show x ((8 * i + m) / 10) / 2 ^ ((8 * i + m) % 10) % 2 ^ 1 = V0 / 256 ^ i / 2 ^ m % 2 from hbit]
      refine V_l2iN rfl ?_
      refine V_iload rfl (by first | rfl | assumption) ?_
      refine V_bipush (v := nI 8) rfl (by decide) ?_
      refine V_iremN rfl (by first | omega | decide) (by first | omega | decide) (by first | omega | decide) ?_
      refine V_ishlN rfl (by first | omega | decide) ?_
      refine V_iaddN rfl ?_
      refine V_istore rfl (by decide) ?_
      refine V_iincN (d := 1) rfl (by first | rfl | assumption) (by decide) (by decide) ?_
      refine V_goto rfl ?_
      refine ih2 _ _ ⟨l0, l4, l5, l8, ?_, rfl, rfl⟩
      rw [mod_p2s]
      show some (Value.int (nI (cyr 256 y i + key (at9 + 16 + i) + V0 / 256 ^ i % 2 ^ m + V0 / 256 ^ i / 2 ^ m % 2 * 2 ^ ((8 * i + m) % 8)))) = _
      rw [show (8 * i + m) % 8 = m by omega, Nat.add_assoc (_ + _)]
    · rintro lc G' ⟨l0, l4, l5, l8, l9, l10, rfl⟩
      have e9 : cyr 256 y i + key (at9 + 16 + i) + V0 / 256 ^ i % 2 ^ 8 = y i + cyr 256 y i := by
        rw [hy]
        show _ = key (at9 + (16 + i)) + _ + _
        rw [Nat.add_assoc at9]
        omega
      have hyi := hyb i
      rw [e9] at l9
      refine V_iload rfl (by first | rfl | assumption) ?_
      refine V_bipush (v := nI 8) rfl (by decide) ?_
      refine V_iload rfl (by first | rfl | assumption) ?_
      refine V_imulN rfl ?_
      refine V_bipush (v := nI 8) rfl (by decide) ?_
      refine V_iaddN rfl ?_
      refine V_icmp_geN rfl (by omega) (by omega) (fun _ => ?_) (fun h => absurd (Nat.le_refl _) h)
      refine V_aload_n rfl (by first | rfl | assumption) ?_
      refine V_getf rfl rfl rfl (by repeat (first | exact hup_eq | assumption | refine Eq.trans (hup_ne (by first | assumption | exact Ne.symm (by assumption) | decide | omega)) ?_)) (by first | rfl | assumption) ?_
      refine V_iload rfl (by first | rfl | assumption) ?_
      refine V_iload rfl (by first | rfl | assumption) ?_
      refine V_i2bN rfl ?_
      refine V_bastB rfl (by repeat (first | exact hup_eq | assumption | refine Eq.trans (hup_ne (by first | assumption | exact Ne.symm (by assumption) | decide | omega)) ?_)) rfl (by first | omega | decide) (by first | omega | decide) (by first | assumption | solve_by_elim | exact Nat.mod_lt _ (by decide) | omega) ?_
      refine V_iload rfl (by first | rfl | assumption) ?_
      refine V_bipush (v := nI 8) rfl (by decide) ?_
      refine V_ishrN rfl (by first | omega | decide) (by first | omega | decide) ?_
      refine V_istore rfl (by decide) ?_
      refine V_iincN (d := 1) rfl (by first | rfl | assumption) (by decide) (by decide) ?_
      refine V_goto rfl ?_
      rw [hup_hup]
      refine ih _ _ ⟨l0, l4, l5, rfl, rfl, _, fun j => ?_, fun j hj => ?_, rfl⟩
      · by_cases e : j = i
        · subst e; rw [updN_eq]; exact Nat.mod_lt _ (by decide)
        · rw [updN_ne e]; exact ht j
      · by_cases e : j = i
        · subst e; rw [updN_eq]; rfl
        · rw [updN_ne e]; exact ht2 j (by omega)
  · rintro lc G' ⟨l0, l4, l5, l7, l8, t, ht, ht2, rfl⟩
    refine V_iload rfl (by first | rfl | assumption) ?_
    refine V_bipush (v := nI 16) rfl (by decide) ?_
    refine V_icmp_geN rfl (by decide) (by decide) (fun _ => ?_) (fun h => absurd (Nat.le_refl _) h)
    refine V_vret rfl rfl (hq t ht (fun j hj => ?_))
    rw [ht2 j hj, hy, tag_byte hj]
set_option maxHeartbeats 4000000 in
theorem V_mseal_set {x : Nat → Nat} {lc : kLo} (g140 : G.1 140 = some (MO th ta os hs ps rs)) (g153 : G.1 153 = some (LA 13 x)) (hx1 : ∀ k, k < 13 → x k < 2 ^ 10) (l0 : lc 0 = some (.ref 140))
    (hq : ∀ lc' z, lc' 0 = lc 0 → lc' 4 = lc 4 → lc' 5 = lc 5 → (∀ k, k < 13 → z k < 2 ^ 10) → vs (2 ^ 10) z 13 = vs (2 ^ 10) x 13 % PQ → V K 0 0 mX12_seal 333 lc' [] (hup G 153 (LA 13 z)) Q) : V K 0 0 mX12_seal 224 lc [] G Q := by
  have b0 := hx1 0 (by decide)
  have t21 : ∀ c : Bool, c = grq x 0 → V K 0 0 mX12_seal 242 lc [.int (bI c)] G Q := by
    rintro c rfl
    refine V_istore rfl (by decide) ?_
    refine V_iconst (v := nI 1) rfl (by decide) ?_
    refine V_istore rfl (by decide) ?_
    refine V_loop 12 (fun i lc2 G' => lc2 0 = lc 0 ∧ lc2 4 = lc 4 ∧ lc2 5 = lc 5 ∧ lc2 6 = some (.int (bI (grq x i))) ∧ lc2 7 = some (.int (nI (1 + i))) ∧ G' = G) ?_ ?_ 0 _ _ (Nat.zero_le _) ⟨rfl, rfl, rfl, rfl, rfl, rfl⟩
    · rintro i lc2 G' hi ⟨k0, k4, k5, l6, l7, rfl⟩ ih
      have k0' := k0.trans l0
      have tl : ∀ c : Bool, c = grq x (i + 1) → V K 0 0 mX12_seal 278 lc2 [.int (bI c)] G' Q := by
        rintro c rfl
        refine V_istore rfl (by decide) ?_
        refine V_iincN (d := 1) rfl (by first | rfl | assumption) (by decide) (by decide) ?_
        refine V_goto rfl ?_
        exact ih _ _ ⟨k0, k4, k5, rfl, rfl, rfl⟩
      have bi := hx1 (1 + i) (by omega)
      refine V_iload rfl (by first | rfl | assumption) ?_
      refine V_bipush (v := nI 13) rfl (by decide) ?_
      refine V_icmp_geN rfl (by omega) (by decide) (fun h => absurd h (by omega)) (fun _ => ?_)
      refine V_iload rfl (by assumption) ?_
      refine V_if_eqB rfl (fun h => ?_) (fun h => ?_)
      · refine V_iconst (v := bI false) rfl (by decide) ?_
        exact tl false (by simp only [grq]; rw [h]; rfl)
      · refine V_aload_n rfl (by first | rfl | assumption) ?_
        refine V_getf rfl rfl rfl (by repeat (first | exact hup_eq | assumption | refine Eq.trans (hup_ne (by first | assumption | exact Ne.symm (by assumption) | decide | omega)) ?_)) (by first | rfl | assumption) ?_
        refine V_iload rfl (by first | rfl | assumption) ?_
        refine V_laldN rfl (by repeat (first | exact hup_eq | assumption | refine Eq.trans (hup_ne (by first | assumption | exact Ne.symm (by assumption) | decide | omega)) ?_)) rfl (by first | omega | decide) (by first | omega | decide) ?_
        refine V_ldc2 (v := lN 1023) rfl kc_X12_241 ?_
        refine V_lcmp rfl ?_
        refine V_if_neLN rfl (by omega) (by decide) (fun h2 => ?_) (fun h2 => ?_)
        · refine V_iconst (v := bI false) rfl (by decide) ?_
          refine tl false ?_
          simp only [grq]
          rw [Nat.add_comm i 1, decide_eq_false h2, Bool.and_false]
        · refine V_iconst (v := bI true) rfl (by decide) ?_
          refine V_goto rfl ?_
          refine tl true ?_
          simp only [grq]
          rw [Nat.add_comm i 1, decide_eq_true h2, h]
          rfl
    · rintro lc2 G' ⟨k0, k4, k5, l6, l7, rfl⟩
      have k0' := k0.trans l0
      refine V_iload rfl (by first | rfl | assumption) ?_
      refine V_bipush (v := nI 13) rfl (by decide) ?_
      refine V_icmp_geN rfl (by decide) (by decide) (fun _ => ?_) (fun h => absurd (by decide) h)
      refine V_iconst (v := nI 0) rfl (by decide) ?_
      refine V_istore rfl (by decide) ?_
      have fin : ∀ (lc' : kLo) (z : Nat → Nat), lc' 0 = lc 0 → lc' 4 = lc 4 → lc' 5 = lc 5 → (∀ k, k < 13 → z k = (if grq x 12 then smf (x 0 - 1019) else x) k) → V K 0 0 mX12_seal 333 lc' [] (hup G' 153 (LA 13 z)) Q := by
        intro lc' z q1 q2 q3 e2
        refine hq lc' z q1 q2 q3 (fun k hk => ?_) ?_
        · rw [e2 k hk]
          split
          · unfold smf; split <;> omega
          · exact hx1 k hk
        · rw [vs_congr e2, grq_ok hx1]
      cases hg : grq x 12 with
      | false =>
        rw [hg] at fin l6
        refine V_iload rfl (by first | rfl | assumption) ?_
        refine V_bipush (v := nI 13) rfl (by decide) ?_
        refine V_icmp_geN rfl (by decide) (by decide) (fun h => absurd h (by decide)) (fun _ => ?_)
        refine V_iload rfl (by assumption) ?_
        refine V_if_eqB rfl (fun _ => ?_) (fun h => Bool.noConfusion h)
        have := fin (ls1 lc2 7 (.int (nI 0))) x k0 k4 k5 (fun k _ => rfl)
        rw [hup_same g153] at this
        exact this
      | true =>
        rw [hg] at fin l6
        have h32 := (grq_t 12 hg).1
        refine V_loop 13 (fun i lc3 G9 => lc3 0 = lc 0 ∧ lc3 4 = lc 4 ∧ lc3 5 = lc 5 ∧ lc3 6 = some (.int (bI true)) ∧ lc3 7 = some (.int (nI i)) ∧ ∃ z, (∀ k, k < i → z k = smf (x 0 - 1019) k) ∧ (i = 0 → z 0 = x 0) ∧ G9 = hup G' 153 (LA 13 z)) ?_ ?_ 0 _ _ (Nat.zero_le _) ⟨k0, k4, k5, l6, rfl, x, fun k hk => absurd hk (Nat.not_lt_zero k), fun _ => rfl, (hup_same g153).symm⟩
        · rintro i lc3 G9 hi ⟨k0, k4, k5, l6, l7, z, hz, hz0, rfl⟩ ih
          have k0' := k0.trans l0
          have tail : V K 0 0 mX12_seal 326 lc3 [.long (lN (smf (x 0 - 1019) i)), .int (nI i), .ref 153] (hup G' 153 (LA 13 z)) Q := by
            refine V_lastN rfl (by repeat (first | exact hup_eq | assumption | refine Eq.trans (hup_ne (by first | assumption | exact Ne.symm (by assumption) | decide | omega)) ?_)) rfl (by first | omega | decide) (by first | omega | decide) ?_
            refine V_iincN (d := 1) rfl (by first | rfl | assumption) (by decide) (by decide) ?_
            refine V_goto rfl ?_
            rw [hup_hup]
            refine ih _ _ ⟨k0, k4, k5, l6, rfl, _, fun k hk => ?_, fun q => absurd q (by omega), rfl⟩
            by_cases e : k = i
            · subst e; rw [updN_eq]
            · rw [updN_ne e]; exact hz k (by omega)
          refine V_iload rfl (by first | rfl | assumption) ?_
          refine V_bipush (v := nI 13) rfl (by decide) ?_
          refine V_icmp_geN rfl (by omega) (by decide) (fun h => absurd h (by omega)) (fun _ => ?_)
          refine V_iload rfl (by assumption) ?_
          refine V_if_eqB rfl (fun h => Bool.noConfusion h) (fun _ => ?_)
          refine V_aload_n rfl (by first | rfl | assumption) ?_
          refine V_getf rfl rfl rfl (by repeat (first | exact hup_eq | assumption | refine Eq.trans (hup_ne (by first | assumption | exact Ne.symm (by assumption) | decide | omega)) ?_)) (by first | rfl | assumption) ?_
          refine V_iload rfl (by first | rfl | assumption) ?_
          refine V_iload rfl (by first | rfl | assumption) ?_
          refine V_if_neN rfl (by omega) (fun h => ?_) (fun h => ?_)
          · refine V_lconst (v := lN 0) rfl (by decide) ?_
            rw [show smf (x 0 - 1019) i = 0 from if_neg h] at tail
            exact tail
          · rw [show smf (x 0 - 1019) i = x 0 - 1019 from if_pos h] at tail
            refine V_aload_n rfl (by first | rfl | assumption) ?_
            refine V_getf rfl rfl rfl (by repeat (first | exact hup_eq | assumption | refine Eq.trans (hup_ne (by first | assumption | exact Ne.symm (by assumption) | decide | omega)) ?_)) (by first | rfl | assumption) ?_
            refine V_iconst (v := nI 0) rfl (by decide) ?_
            refine V_laldN rfl (by repeat (first | exact hup_eq | assumption | refine Eq.trans (hup_ne (by first | assumption | exact Ne.symm (by assumption) | decide | omega)) ?_)) rfl (by first | omega | decide) (by first | omega | decide) ?_
            rw [hz0 h]
            refine V_ldc2 (v := lN 1019) rfl kc_X12_255 ?_
            refine V_lsubN rfl (by first | omega | decide) ?_
            refine V_goto rfl ?_
            exact tail
        · rintro lc3 G9 ⟨k0, k4, k5, l6, l7, z, hz, hz0, rfl⟩
          have k0' := k0.trans l0
          refine V_iload rfl (by first | rfl | assumption) ?_
          refine V_bipush (v := nI 13) rfl (by decide) ?_
          refine V_icmp_geN rfl (by decide) (by decide) (fun _ => ?_) (fun h => absurd (Nat.le_refl _) h)
          exact fin _ z k0 k4 k5 hz
  refine V_aload_n rfl (by first | rfl | assumption) ?_
  refine V_getf rfl rfl rfl (by repeat (first | exact hup_eq | assumption | refine Eq.trans (hup_ne (by first | assumption | exact Ne.symm (by assumption) | decide | omega)) ?_)) (by first | rfl | assumption) ?_
  refine V_iconst (v := nI 0) rfl (by decide) ?_
  refine V_laldN rfl (by repeat (first | exact hup_eq | assumption | refine Eq.trans (hup_ne (by first | assumption | exact Ne.symm (by assumption) | decide | omega)) ?_)) rfl (by first | omega | decide) (by first | omega | decide) ?_
  refine V_ldc2 (v := lN 1019) rfl kc_X12_255 ?_
  refine V_lcmp rfl ?_
  refine V_if_ltLN rfl (by omega) (by decide) (fun h => ?_) (fun h => ?_)
  · refine V_iconst (v := bI false) rfl (by decide) ?_
    exact t21 false (by simp only [grq]; rw [decide_eq_false (by omega)])
  · refine V_iconst (v := bI true) rfl (by decide) ?_
    refine V_goto rfl ?_
    exact t21 true (by simp only [grq]; rw [decide_eq_true (by omega)])
/-- the tag's rows -/
def tM (G : kG) : Prop := (∃ f, G.1 153 = some (LA 13 f)) ∧ (∃ f, G.1 154 = some (LA 13 f)) ∧ (∃ f, G.1 155 = some (LA 26 f)) ∧ ∃ f, G.1 156 = some (YA 16 f) ∧ ∀ j, f j < 256
abbrev PT (j : Nat) : Prop := j = 153 ∨ j = 154 ∨ j = 155 ∨ j = 156
theorem blk_bit {f : Nat → Nat} (hf : ∀ j, f j < 256) {m i : Nat} (hi : i ≤ 8 * m) : (vs 256 f m + 256 ^ m) / 2 ^ i % 2 = if i = 8 * m then 1 else f (i / 8) / 2 ^ (i % 8) % 2 := by
  have hv : vs 256 f m < 256 ^ m := vs_lt (by decide) (fun j _ => hf j)
  have ep : (256 : Nat) ^ m = 2 ^ (8 * m) := by rw [Nat.pow_mul]
  by_cases e : i = 8 * m
  · rw [if_pos e, e, ← ep, Nat.add_div_right _ (Nat.pow_pos (by decide)), Nat.div_eq_of_lt hv]
  · rw [if_neg e, byte_bit hf (N := m) (by omega)]
    have e2 : (256 : Nat) ^ m = 2 ^ (8 * m - (i + 1)) * 2 * 2 ^ i := by rw [ep, ← Nat.pow_succ, ← Nat.pow_add]; congr 1; omega
    rw [e2, Nat.add_mul_div_right _ _ (Nat.two_pow_pos i), Nat.add_mul_mod_self_right]
theorem blk_lt {f : Nat → Nat} (hf : ∀ j, f j < 256) {m : Nat} : vs 256 f m + 256 ^ m < 2 ^ (8 * m + 1) := by
  have hv : vs 256 f m < 256 ^ m := vs_lt (by decide) (fun j _ => hf j)
  have ep : (256 : Nat) ^ m = 2 ^ (8 * m) := by rw [Nat.pow_mul]
  rw [Nat.pow_succ, ← ep]
  omega
end MTag2
