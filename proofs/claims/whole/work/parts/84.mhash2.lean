section MHash2
variable {K : kK} {G : kG} {Q : kO → kG → Prop} {th ta os hs ps rs : Int32}
set_option maxHeartbeats 16000000 in
theorem c_mblock {at9 : Nat} {b : Nat → Nat} {r w0 h0 s0 : Nat → Int32} (g140 : G.1 140 = some (MO th ta os hs ps rs)) (g146 : G.1 146 = some (IA 64 r)) (g147 : G.1 147 = some (IA 64 w0)) (g148 : G.1 148 = some (IA 8 h0)) (g149 : G.1 149 = some (YA 800 b)) (g151 : G.1 151 = some (IA 16 s0)) (hb : ∀ j, b j < 256) (hat : at9 + 64 ≤ 800)
    (hq : ∀ w s h, (∀ j, j < 8 → h j = mixF r (exw (bW b at9) 48) h0 j) → Q (.inl none) (hup (hup (hup G 147 (IA 64 w)) 151 (IA 16 s)) 148 (IA 8 h))) : C K 0 0 mX12_hashBlock [.ref 140, .int (nI at9)] G Q := by
  refine C_of okX12_hashBlock (Nat.le_of_ble_eq_true rfl) ?_
  refine V_iconst (v := nI 0) rfl (by decide) ?_
  refine V_istore_n rfl (by decide) ?_
  refine V_loop 16 (fun i lc G' => lc 0 = some (.ref 140) ∧ lc 1 = some (.int (nI at9)) ∧ lc 2 = some (.int (nI i)) ∧ ∃ w, (∀ j, j < i → w j = bW b at9 j) ∧ G' = hup G 147 (IA 64 w)) ?_ ?_ 0 _ _ (Nat.zero_le _) ⟨rfl, rfl, rfl, w0, fun j hj => absurd hj (Nat.not_lt_zero j), (hup_same g147).symm⟩
  · rintro i lc G' hi ⟨l0, l1, l2, w, hw, rfl⟩ ih
    refine V_iload_n rfl (by first | rfl | assumption) ?_
    refine V_bipush (v := nI 16) rfl (by decide) ?_
    refine V_icmp_geN rfl (by omega) (by decide) (fun h => absurd h (by omega)) (fun _ => ?_)
    refine V_aload_n rfl (by first | rfl | assumption) ?_
    refine V_getf rfl rfl rfl (by repeat (first | exact hup_eq | assumption | refine Eq.trans (hup_ne (by first | assumption | exact Ne.symm (by assumption) | decide | omega)) ?_)) (by first | rfl | assumption) ?_
    refine V_iload_n rfl (by first | rfl | assumption) ?_
    refine V_iconst (v := nI 0) rfl (by decide) ?_
    refine V_iastJ rfl (by repeat (first | exact hup_eq | assumption | refine Eq.trans (hup_ne (by first | assumption | exact Ne.symm (by assumption) | decide | omega)) ?_)) rfl (by first | omega | decide) (by first | omega | decide) ?_
    refine V_iconst (v := nI 0) rfl (by decide) ?_
    refine V_istore_n rfl (by decide) ?_
    rw [hup_hup]
    refine V_loop 4 (fun k lc G' => lc 0 = some (.ref 140) ∧ lc 1 = some (.int (nI at9)) ∧ lc 2 = some (.int (nI i)) ∧ lc 3 = some (.int (nI k)) ∧ G' = hup G 147 (IA 64 (upd w i (nI (pbe b (at9 + 4 * i) k))))) ?_ ?_ 0 _ _ (Nat.zero_le _) ⟨l0, l1, l2, rfl, rfl⟩
    · rintro k lc G' hk ⟨l0, l1, l2, l3, rfl⟩ ih2
      refine V_iload_n rfl (by first | rfl | assumption) ?_
      refine V_iconst (v := nI 4) rfl (by decide) ?_
      refine V_icmp_geN rfl (by omega) (by decide) (fun h => absurd h (by omega)) (fun _ => ?_)
      refine V_aload_n rfl (by first | rfl | assumption) ?_
      refine V_getf rfl rfl rfl (by repeat (first | exact hup_eq | assumption | refine Eq.trans (hup_ne (by first | assumption | exact Ne.symm (by assumption) | decide | omega)) ?_)) (by first | rfl | assumption) ?_
      refine V_iload_n rfl (by first | rfl | assumption) ?_
      refine V_aload_n rfl (by first | rfl | assumption) ?_
      refine V_getf rfl rfl rfl (by repeat (first | exact hup_eq | assumption | refine Eq.trans (hup_ne (by first | assumption | exact Ne.symm (by assumption) | decide | omega)) ?_)) (by first | rfl | assumption) ?_
      refine V_iload_n rfl (by first | rfl | assumption) ?_
      refine V_ialdJ rfl (by repeat (first | exact hup_eq | assumption | refine Eq.trans (hup_ne (by first | assumption | exact Ne.symm (by assumption) | decide | omega)) ?_)) rfl (by first | omega | decide) (by first | omega | decide) ?_
      rw [pk_us]
      refine V_bipush (v := nI 8) rfl (by decide) ?_
      refine V_ishlN rfl (by first | omega | decide) ?_
      refine V_aload_n rfl (by first | rfl | assumption) ?_
      refine V_getf rfl rfl rfl (by repeat (first | exact hup_eq | assumption | refine Eq.trans (hup_ne (by first | assumption | exact Ne.symm (by assumption) | decide | omega)) ?_)) (by first | rfl | assumption) ?_
      refine V_iload_n rfl (by first | rfl | assumption) ?_
      refine V_iconst (v := nI 4) rfl (by decide) ?_
      refine V_iload_n rfl (by first | rfl | assumption) ?_
      refine V_imulN rfl ?_
      refine V_iaddN rfl ?_
      refine V_iload_n rfl (by first | rfl | assumption) ?_
      refine V_iaddN rfl ?_
      refine V_baldB rfl (by repeat (first | exact hup_eq | assumption | refine Eq.trans (hup_ne (by first | assumption | exact Ne.symm (by assumption) | decide | omega)) ?_)) rfl (by first | omega | decide) (by first | omega | decide) ?_
      refine V_sipush (v := nI 255) rfl (by decide) ?_
      refine V_bandB rfl (by first | assumption | solve_by_elim | exact Nat.mod_lt _ (by decide) | omega) ?_
      refine V_iorN 8 rfl (by exact hb _) (by decide) ?_
      refine V_iastJ rfl (by repeat (first | exact hup_eq | assumption | refine Eq.trans (hup_ne (by first | assumption | exact Ne.symm (by assumption) | decide | omega)) ?_)) rfl (by omega) (by decide) ?_
      refine V_iincN (d := 1) rfl (by first | rfl | assumption) (by decide) (by decide) ?_
      refine V_goto rfl ?_
      rw [hup_hup, show upd (upd w i (nI (pbe b (at9 + 4 * i) k))) i (nI (pbe b (at9 + 4 * i) k * 2 ^ 8 + b (at9 + 4 * i + k))) = upd w i (nI (pbe b (at9 + 4 * i) (k + 1))) from ?_]
      · exact ih2 _ _ ⟨l0, l1, l2, rfl, rfl⟩
      · funext j
        by_cases e : j = i
        · subst e; rw [pk_us, pk_us]; rfl
        · rw [pk_un e, pk_un e, pk_un e]
    · rintro lc G' ⟨l0, l1, l2, l3, rfl⟩
      refine V_iload_n rfl (by first | rfl | assumption) ?_
      refine V_iconst (v := nI 4) rfl (by decide) ?_
      refine V_icmp_geN rfl (by decide) (by decide) (fun _ => ?_) (fun h => absurd (Nat.le_refl _) h)
      refine V_iincN (d := 1) rfl (by first | rfl | assumption) (by decide) (by decide) ?_
      refine V_goto rfl ?_
      refine ih _ _ ⟨l0, l1, rfl, _, fun j hj => ?_, rfl⟩
      by_cases e : j = i
      · subst e; rw [pk_us, pbe_4]
      · rw [pk_un e]; exact hw j (by omega)
  rintro lc G' ⟨l0, l1, l2, w, hw, rfl⟩
  refine V_iload_n rfl (by first | rfl | assumption) ?_
  refine V_bipush (v := nI 16) rfl (by decide) ?_
  refine V_icmp_geN rfl (by decide) (by decide) (fun _ => ?_) (fun h => absurd (Nat.le_refl _) h)
  refine V_bipush (v := nI 16) rfl (by decide) ?_
  refine V_istore_n rfl (by decide) ?_
  refine V_loop 48 (fun i lc G' => lc 0 = some (.ref 140) ∧ lc 2 = some (.int (nI (16 + i))) ∧ ∃ w, (∀ j, j < 16 + i → w j = exw (bW b at9) i j) ∧ G' = hup G 147 (IA 64 w)) ?_ ?_ 0 _ _ (Nat.zero_le _) ⟨l0, rfl, w, hw, rfl⟩
  · rintro i lc G' hi ⟨l0, l2, w, hw, rfl⟩ ih
    refine V_iload_n rfl (by first | rfl | assumption) ?_
    refine V_bipush (v := nI 64) rfl (by decide) ?_
    refine V_icmp_geN rfl (by omega) (by decide) (fun h => absurd h (by omega)) (fun _ => ?_)
    refine V_aload_n rfl (by first | rfl | assumption) ?_
    refine V_getf rfl rfl rfl (by repeat (first | exact hup_eq | assumption | refine Eq.trans (hup_ne (by first | assumption | exact Ne.symm (by assumption) | decide | omega)) ?_)) (by first | rfl | assumption) ?_
    refine V_iload_n rfl (by first | rfl | assumption) ?_
    refine V_bipush (v := nI 15) rfl (by decide) ?_
    refine V_isubN rfl (by first | omega | decide) ?_
    refine V_ialdJ rfl (by repeat (first | exact hup_eq | assumption | refine Eq.trans (hup_ne (by first | assumption | exact Ne.symm (by assumption) | decide | omega)) ?_)) rfl (by first | omega | decide) (by first | omega | decide) ?_
    refine V_istore_n rfl (by decide) ?_
    refine V_aload_n rfl (by first | rfl | assumption) ?_
    refine V_getf rfl rfl rfl (by repeat (first | exact hup_eq | assumption | refine Eq.trans (hup_ne (by first | assumption | exact Ne.symm (by assumption) | decide | omega)) ?_)) (by first | rfl | assumption) ?_
    refine V_iload_n rfl (by first | rfl | assumption) ?_
    refine V_iconst (v := nI 2) rfl (by decide) ?_
    refine V_isubN rfl (by first | omega | decide) ?_
    refine V_ialdJ rfl (by repeat (first | exact hup_eq | assumption | refine Eq.trans (hup_ne (by first | assumption | exact Ne.symm (by assumption) | decide | omega)) ?_)) rfl (by first | omega | decide) (by first | omega | decide) ?_
    refine V_istore rfl (by decide) ?_
    refine V_aload_n rfl (by first | rfl | assumption) ?_
    refine V_getf rfl rfl rfl (by repeat (first | exact hup_eq | assumption | refine Eq.trans (hup_ne (by first | assumption | exact Ne.symm (by assumption) | decide | omega)) ?_)) (by first | rfl | assumption) ?_
    refine V_iload_n rfl (by first | rfl | assumption) ?_
    refine V_aload_n rfl (by first | rfl | assumption) ?_
    refine V_getf rfl rfl rfl (by repeat (first | exact hup_eq | assumption | refine Eq.trans (hup_ne (by first | assumption | exact Ne.symm (by assumption) | decide | omega)) ?_)) (by first | rfl | assumption) ?_
    refine V_iload_n rfl (by first | rfl | assumption) ?_
    refine V_bipush (v := nI 16) rfl (by decide) ?_
    refine V_isubN rfl (by first | omega | decide) ?_
    refine V_ialdJ rfl (by repeat (first | exact hup_eq | assumption | refine Eq.trans (hup_ne (by first | assumption | exact Ne.symm (by assumption) | decide | omega)) ?_)) rfl (by first | omega | decide) (by first | omega | decide) ?_
    refine V_iload_n rfl (by first | rfl | assumption) ?_
    refine V_bipush (v := nI 7) rfl (by decide) ?_
    refine V_callS (M' := mX12_right) (mc := 0) (ms := 0) (bc' := 0) (bs' := 0) rfl cw_X12_207 is_X12_right rfl (Nat.le_of_ble_eq_true rfl) ⟨Nat.le_of_ble_eq_true rfl, Nat.le_of_ble_eq_true rfl⟩ ⟨Nat.le_of_ble_eq_true rfl, Nat.le_of_ble_eq_true rfl⟩ (As := [.int (w (16 + i - 15)), .int (nI 7)]) (c_mright (Q := fun o G9 => o = .inl (some (.int (rotW (w (16 + i - 15)) 7 25))) ∧ G9 = hup G 147 (IA 64 w)) (by decide) ⟨rfl, rfl⟩) (fun o G9 h => ?_) (fun E G' h => by cases h.1)
    obtain ⟨h, rfl⟩ := h
    cases h
    refine V_iload_n rfl (by rfl) ?_
    refine V_bipush (v := nI 18) rfl (by decide) ?_
    refine V_callS (M' := mX12_right) (mc := 0) (ms := 0) (bc' := 0) (bs' := 0) rfl cw_X12_207 is_X12_right rfl (Nat.le_of_ble_eq_true rfl) ⟨Nat.le_of_ble_eq_true rfl, Nat.le_of_ble_eq_true rfl⟩ ⟨Nat.le_of_ble_eq_true rfl, Nat.le_of_ble_eq_true rfl⟩ (As := [.int (w (16 + i - 15)), .int (nI 18)]) (c_mright (Q := fun o G9 => o = .inl (some (.int (rotW (w (16 + i - 15)) 18 14))) ∧ G9 = hup G 147 (IA 64 w)) (by decide) ⟨rfl, rfl⟩) (fun o G9 h => ?_) (fun E G' h => by cases h.1)
    obtain ⟨h, rfl⟩ := h
    cases h
    refine V_ixor rfl ?_
    refine V_iload_n rfl (by first | rfl | assumption) ?_
    refine V_iconst (v := nI 3) rfl (by decide) ?_
    refine V_iushr rfl ?_
    refine V_ixor rfl ?_
    refine V_iadd rfl ?_
    refine V_aload_n rfl (by first | rfl | assumption) ?_
    refine V_getf rfl rfl rfl (by repeat (first | exact hup_eq | assumption | refine Eq.trans (hup_ne (by first | assumption | exact Ne.symm (by assumption) | decide | omega)) ?_)) (by first | rfl | assumption) ?_
    refine V_iload_n rfl (by first | rfl | assumption) ?_
    refine V_bipush (v := nI 7) rfl (by decide) ?_
    refine V_isubN rfl (by first | omega | decide) ?_
    refine V_ialdJ rfl (by repeat (first | exact hup_eq | assumption | refine Eq.trans (hup_ne (by first | assumption | exact Ne.symm (by assumption) | decide | omega)) ?_)) rfl (by first | omega | decide) (by first | omega | decide) ?_
    refine V_iadd rfl ?_
    refine V_iload rfl (by first | rfl | assumption) ?_
    refine V_bipush (v := nI 17) rfl (by decide) ?_
    refine V_callS (M' := mX12_right) (mc := 0) (ms := 0) (bc' := 0) (bs' := 0) rfl cw_X12_207 is_X12_right rfl (Nat.le_of_ble_eq_true rfl) ⟨Nat.le_of_ble_eq_true rfl, Nat.le_of_ble_eq_true rfl⟩ ⟨Nat.le_of_ble_eq_true rfl, Nat.le_of_ble_eq_true rfl⟩ (As := [.int (w (16 + i - 2)), .int (nI 17)]) (c_mright (Q := fun o G9 => o = .inl (some (.int (rotW (w (16 + i - 2)) 17 15))) ∧ G9 = hup G 147 (IA 64 w)) (by decide) ⟨rfl, rfl⟩) (fun o G9 h => ?_) (fun E G' h => by cases h.1)
    obtain ⟨h, rfl⟩ := h
    cases h
    refine V_iload rfl (by rfl) ?_
    refine V_bipush (v := nI 19) rfl (by decide) ?_
    refine V_callS (M' := mX12_right) (mc := 0) (ms := 0) (bc' := 0) (bs' := 0) rfl cw_X12_207 is_X12_right rfl (Nat.le_of_ble_eq_true rfl) ⟨Nat.le_of_ble_eq_true rfl, Nat.le_of_ble_eq_true rfl⟩ ⟨Nat.le_of_ble_eq_true rfl, Nat.le_of_ble_eq_true rfl⟩ (As := [.int (w (16 + i - 2)), .int (nI 19)]) (c_mright (Q := fun o G9 => o = .inl (some (.int (rotW (w (16 + i - 2)) 19 13))) ∧ G9 = hup G 147 (IA 64 w)) (by decide) ⟨rfl, rfl⟩) (fun o G9 h => ?_) (fun E G' h => by cases h.1)
    obtain ⟨h, rfl⟩ := h
    cases h
    refine V_ixor rfl ?_
    refine V_iload rfl (by first | rfl | assumption) ?_
    refine V_bipush (v := nI 10) rfl (by decide) ?_
    refine V_iushr rfl ?_
    refine V_ixor rfl ?_
    refine V_iadd rfl ?_
    refine V_iastJ rfl (by repeat (first | exact hup_eq | assumption | refine Eq.trans (hup_ne (by first | assumption | exact Ne.symm (by assumption) | decide | omega)) ?_)) rfl (by first | omega | decide) (by first | omega | decide) ?_
    refine V_iincN (d := 1) rfl (by first | rfl | assumption) (by decide) (by decide) ?_
    refine V_goto rfl ?_
    rw [hup_hup]
    refine ih _ _ ⟨l0, rfl, _, fun j hj => ?_, rfl⟩
    show _ = upd (exw (bW b at9) i) (16 + i) (exs (exw (bW b at9) i) (16 + i)) j
    rw [← exs_congr (n := i) hw]
    by_cases e : j = 16 + i
    · subst e
      rw [pk_us, pk_us]; rfl
    · rw [pk_un e, pk_un e]
      exact hw j (by omega)
  rintro lc G' ⟨l0, l2, w, hw, rfl⟩
  refine V_iload_n rfl (by first | rfl | assumption) ?_
  refine V_bipush (v := nI 64) rfl (by decide) ?_
  refine V_icmp_geN rfl (by decide) (by decide) (fun _ => ?_) (fun h => absurd (Nat.le_refl _) h)
  refine V_iconst (v := nI 0) rfl (by decide) ?_
  refine V_istore_n rfl (by decide) ?_
  refine V_loop 8 (fun i lc G' => lc 0 = some (.ref 140) ∧ lc 2 = some (.int (nI i)) ∧ ∃ s, (∀ j, j < i → s j = h0 j) ∧ G' = hup (hup G 147 (IA 64 w)) 151 (IA 16 s)) ?_ ?_ 0 _ _ (Nat.zero_le _) ⟨l0, rfl, s0, fun j hj => absurd hj (Nat.not_lt_zero j), (hup_same ((hup_ne (by decide)).trans g151)).symm⟩
  · rintro i lc G' hi ⟨l0, l2, s, hs9, rfl⟩ ih
    refine V_iload_n rfl (by first | rfl | assumption) ?_
    refine V_bipush (v := nI 8) rfl (by decide) ?_
    refine V_icmp_geN rfl (by omega) (by decide) (fun h => absurd h (by omega)) (fun _ => ?_)
    refine V_aload_n rfl (by first | rfl | assumption) ?_
    refine V_getf rfl rfl rfl (by repeat (first | exact hup_eq | assumption | refine Eq.trans (hup_ne (by first | assumption | exact Ne.symm (by assumption) | decide | omega)) ?_)) (by first | rfl | assumption) ?_
    refine V_iload_n rfl (by first | rfl | assumption) ?_
    refine V_aload_n rfl (by first | rfl | assumption) ?_
    refine V_getf rfl rfl rfl (by repeat (first | exact hup_eq | assumption | refine Eq.trans (hup_ne (by first | assumption | exact Ne.symm (by assumption) | decide | omega)) ?_)) (by first | rfl | assumption) ?_
    refine V_iload_n rfl (by first | rfl | assumption) ?_
    refine V_ialdJ rfl (by repeat (first | exact hup_eq | assumption | refine Eq.trans (hup_ne (by first | assumption | exact Ne.symm (by assumption) | decide | omega)) ?_)) rfl (by first | omega | decide) (by first | omega | decide) ?_
    refine V_iastJ rfl (by repeat (first | exact hup_eq | assumption | refine Eq.trans (hup_ne (by first | assumption | exact Ne.symm (by assumption) | decide | omega)) ?_)) rfl (by first | omega | decide) (by first | omega | decide) ?_
    refine V_iincN (d := 1) rfl (by first | rfl | assumption) (by decide) (by decide) ?_
    refine V_goto rfl ?_
    rw [hup_hup]
    refine ih _ _ ⟨l0, rfl, _, fun j hj => ?_, rfl⟩
    by_cases e : j = i
    · subst e; rw [pk_us]
    · rw [pk_un e]; exact hs9 j (by omega)
  rintro lc G' ⟨l0, l2, s, hs9, rfl⟩
  have hs9 : ∀ j, j < 8 → s j = g8 (rns r w (t8 h0) 0) j := fun j hj => by
    rw [hs9 j hj]
    have : j = 0 ∨ j = 1 ∨ j = 2 ∨ j = 3 ∨ j = 4 ∨ j = 5 ∨ j = 6 ∨ j = 7 := by omega
    rcases this with rfl | rfl | rfl | rfl | rfl | rfl | rfl | rfl <;> rfl
  refine V_iload_n rfl (by first | rfl | assumption) ?_
  refine V_bipush (v := nI 8) rfl (by decide) ?_
  refine V_icmp_geN rfl (by decide) (by decide) (fun _ => ?_) (fun h => absurd (Nat.le_refl _) h)
  refine V_iconst (v := nI 0) rfl (by decide) ?_
  refine V_istore_n rfl (by decide) ?_
  refine V_loop 64 (fun i lc G' => lc 0 = some (.ref 140) ∧ lc 2 = some (.int (nI i)) ∧ ∃ s, (∀ j, j < 8 → s j = g8 (rns r w (t8 h0) i) j) ∧ G' = hup (hup G 147 (IA 64 w)) 151 (IA 16 s)) ?_ ?_ 0 _ _ (Nat.zero_le _) ⟨l0, rfl, s, hs9, rfl⟩
  · rintro i lc G' hi ⟨l0, l2, s, hs9, rfl⟩ ih
    refine V_iload_n rfl (by first | rfl | assumption) ?_
    refine V_bipush (v := nI 64) rfl (by decide) ?_
    refine V_icmp_geN rfl (by omega) (by decide) (fun h => absurd h (by omega)) (fun _ => ?_)
    refine V_aload_n rfl (by first | rfl | assumption) ?_
    refine V_getf rfl rfl rfl (by repeat (first | exact hup_eq | assumption | refine Eq.trans (hup_ne (by first | assumption | exact Ne.symm (by assumption) | decide | omega)) ?_)) (by first | rfl | assumption) ?_
    refine V_iconst (v := nI 4) rfl (by decide) ?_
    refine V_ialdJ rfl (by repeat (first | exact hup_eq | assumption | refine Eq.trans (hup_ne (by first | assumption | exact Ne.symm (by assumption) | decide | omega)) ?_)) rfl (by first | omega | decide) (by first | omega | decide) ?_
    refine V_istore_n rfl (by decide) ?_
    refine V_aload_n rfl (by first | rfl | assumption) ?_
    refine V_getf rfl rfl rfl (by repeat (first | exact hup_eq | assumption | refine Eq.trans (hup_ne (by first | assumption | exact Ne.symm (by assumption) | decide | omega)) ?_)) (by first | rfl | assumption) ?_
    refine V_iconst (v := nI 0) rfl (by decide) ?_
    refine V_ialdJ rfl (by repeat (first | exact hup_eq | assumption | refine Eq.trans (hup_ne (by first | assumption | exact Ne.symm (by assumption) | decide | omega)) ?_)) rfl (by first | omega | decide) (by first | omega | decide) ?_
    refine V_istore rfl (by decide) ?_
    refine V_aload_n rfl (by first | rfl | assumption) ?_
    refine V_getf rfl rfl rfl (by repeat (first | exact hup_eq | assumption | refine Eq.trans (hup_ne (by first | assumption | exact Ne.symm (by assumption) | decide | omega)) ?_)) (by first | rfl | assumption) ?_
    refine V_bipush (v := nI 7) rfl (by decide) ?_
    refine V_ialdJ rfl (by repeat (first | exact hup_eq | assumption | refine Eq.trans (hup_ne (by first | assumption | exact Ne.symm (by assumption) | decide | omega)) ?_)) rfl (by first | omega | decide) (by first | omega | decide) ?_
    refine V_iload_n rfl (by first | rfl | assumption) ?_
    refine V_bipush (v := nI 6) rfl (by decide) ?_
    refine V_callS (M' := mX12_right) (mc := 0) (ms := 0) (bc' := 0) (bs' := 0) rfl cw_X12_207 is_X12_right rfl (Nat.le_of_ble_eq_true rfl) ⟨Nat.le_of_ble_eq_true rfl, Nat.le_of_ble_eq_true rfl⟩ ⟨Nat.le_of_ble_eq_true rfl, Nat.le_of_ble_eq_true rfl⟩ (As := [.int (s 4), .int (nI 6)]) (c_mright (Q := fun o G9 => o = .inl (some (.int (rotW (s 4) 6 26))) ∧ G9 = hup (hup G 147 (IA 64 w)) 151 (IA 16 s)) (by decide) ⟨rfl, rfl⟩) (fun o G9 h => ?_) (fun E G' h => by cases h.1)
    obtain ⟨h, rfl⟩ := h
    cases h
    refine V_iload_n rfl (by rfl) ?_
    refine V_bipush (v := nI 11) rfl (by decide) ?_
    refine V_callS (M' := mX12_right) (mc := 0) (ms := 0) (bc' := 0) (bs' := 0) rfl cw_X12_207 is_X12_right rfl (Nat.le_of_ble_eq_true rfl) ⟨Nat.le_of_ble_eq_true rfl, Nat.le_of_ble_eq_true rfl⟩ ⟨Nat.le_of_ble_eq_true rfl, Nat.le_of_ble_eq_true rfl⟩ (As := [.int (s 4), .int (nI 11)]) (c_mright (Q := fun o G9 => o = .inl (some (.int (rotW (s 4) 11 21))) ∧ G9 = hup (hup G 147 (IA 64 w)) 151 (IA 16 s)) (by decide) ⟨rfl, rfl⟩) (fun o G9 h => ?_) (fun E G' h => by cases h.1)
    obtain ⟨h, rfl⟩ := h
    cases h
    refine V_ixor rfl ?_
    refine V_iload_n rfl (by rfl) ?_
    refine V_bipush (v := nI 25) rfl (by decide) ?_
    refine V_callS (M' := mX12_right) (mc := 0) (ms := 0) (bc' := 0) (bs' := 0) rfl cw_X12_207 is_X12_right rfl (Nat.le_of_ble_eq_true rfl) ⟨Nat.le_of_ble_eq_true rfl, Nat.le_of_ble_eq_true rfl⟩ ⟨Nat.le_of_ble_eq_true rfl, Nat.le_of_ble_eq_true rfl⟩ (As := [.int (s 4), .int (nI 25)]) (c_mright (Q := fun o G9 => o = .inl (some (.int (rotW (s 4) 25 7))) ∧ G9 = hup (hup G 147 (IA 64 w)) 151 (IA 16 s)) (by decide) ⟨rfl, rfl⟩) (fun o G9 h => ?_) (fun E G' h => by cases h.1)
    obtain ⟨h, rfl⟩ := h
    cases h
    refine V_ixor rfl ?_
    refine V_iadd rfl ?_
    refine V_iload_n rfl (by first | rfl | assumption) ?_
    refine V_aload_n rfl (by first | rfl | assumption) ?_
    refine V_getf rfl rfl rfl (by repeat (first | exact hup_eq | assumption | refine Eq.trans (hup_ne (by first | assumption | exact Ne.symm (by assumption) | decide | omega)) ?_)) (by first | rfl | assumption) ?_
    refine V_iconst (v := nI 5) rfl (by decide) ?_
    refine V_ialdJ rfl (by repeat (first | exact hup_eq | assumption | refine Eq.trans (hup_ne (by first | assumption | exact Ne.symm (by assumption) | decide | omega)) ?_)) rfl (by first | omega | decide) (by first | omega | decide) ?_
    refine V_iand rfl ?_
    refine V_iload_n rfl (by first | rfl | assumption) ?_
    refine V_iconst (v := (-1)) rfl (by decide) ?_
    refine V_ixor rfl ?_
    refine V_aload_n rfl (by first | rfl | assumption) ?_
    refine V_getf rfl rfl rfl (by repeat (first | exact hup_eq | assumption | refine Eq.trans (hup_ne (by first | assumption | exact Ne.symm (by assumption) | decide | omega)) ?_)) (by first | rfl | assumption) ?_
    refine V_bipush (v := nI 6) rfl (by decide) ?_
    refine V_ialdJ rfl (by repeat (first | exact hup_eq | assumption | refine Eq.trans (hup_ne (by first | assumption | exact Ne.symm (by assumption) | decide | omega)) ?_)) rfl (by first | omega | decide) (by first | omega | decide) ?_
    refine V_iand rfl ?_
    refine V_ixor rfl ?_
    refine V_iadd rfl ?_
    refine V_aload_n rfl (by first | rfl | assumption) ?_
    refine V_getf rfl rfl rfl (by repeat (first | exact hup_eq | assumption | refine Eq.trans (hup_ne (by first | assumption | exact Ne.symm (by assumption) | decide | omega)) ?_)) (by first | rfl | assumption) ?_
    refine V_iload_n rfl (by first | rfl | assumption) ?_
    refine V_ialdJ rfl (by repeat (first | exact hup_eq | assumption | refine Eq.trans (hup_ne (by first | assumption | exact Ne.symm (by assumption) | decide | omega)) ?_)) rfl (by first | omega | decide) (by first | omega | decide) ?_
    refine V_iadd rfl ?_
    refine V_aload_n rfl (by first | rfl | assumption) ?_
    refine V_getf rfl rfl rfl (by repeat (first | exact hup_eq | assumption | refine Eq.trans (hup_ne (by first | assumption | exact Ne.symm (by assumption) | decide | omega)) ?_)) (by first | rfl | assumption) ?_
    refine V_iload_n rfl (by first | rfl | assumption) ?_
    refine V_ialdJ rfl (by repeat (first | exact hup_eq | assumption | refine Eq.trans (hup_ne (by first | assumption | exact Ne.symm (by assumption) | decide | omega)) ?_)) rfl (by first | omega | decide) (by first | omega | decide) ?_
    refine V_iadd rfl ?_
    refine V_istore rfl (by decide) ?_
    refine V_iload rfl (by first | rfl | assumption) ?_
    refine V_iconst (v := nI 2) rfl (by decide) ?_
    refine V_callS (M' := mX12_right) (mc := 0) (ms := 0) (bc' := 0) (bs' := 0) rfl cw_X12_207 is_X12_right rfl (Nat.le_of_ble_eq_true rfl) ⟨Nat.le_of_ble_eq_true rfl, Nat.le_of_ble_eq_true rfl⟩ ⟨Nat.le_of_ble_eq_true rfl, Nat.le_of_ble_eq_true rfl⟩ (As := [.int (s 0), .int (nI 2)]) (c_mright (Q := fun o G9 => o = .inl (some (.int (rotW (s 0) 2 30))) ∧ G9 = hup (hup G 147 (IA 64 w)) 151 (IA 16 s)) (by decide) ⟨rfl, rfl⟩) (fun o G9 h => ?_) (fun E G' h => by cases h.1)
    obtain ⟨h, rfl⟩ := h
    cases h
    refine V_iload rfl (by rfl) ?_
    refine V_bipush (v := nI 13) rfl (by decide) ?_
    refine V_callS (M' := mX12_right) (mc := 0) (ms := 0) (bc' := 0) (bs' := 0) rfl cw_X12_207 is_X12_right rfl (Nat.le_of_ble_eq_true rfl) ⟨Nat.le_of_ble_eq_true rfl, Nat.le_of_ble_eq_true rfl⟩ ⟨Nat.le_of_ble_eq_true rfl, Nat.le_of_ble_eq_true rfl⟩ (As := [.int (s 0), .int (nI 13)]) (c_mright (Q := fun o G9 => o = .inl (some (.int (rotW (s 0) 13 19))) ∧ G9 = hup (hup G 147 (IA 64 w)) 151 (IA 16 s)) (by decide) ⟨rfl, rfl⟩) (fun o G9 h => ?_) (fun E G' h => by cases h.1)
    obtain ⟨h, rfl⟩ := h
    cases h
    refine V_ixor rfl ?_
    refine V_iload rfl (by rfl) ?_
    refine V_bipush (v := nI 22) rfl (by decide) ?_
    refine V_callS (M' := mX12_right) (mc := 0) (ms := 0) (bc' := 0) (bs' := 0) rfl cw_X12_207 is_X12_right rfl (Nat.le_of_ble_eq_true rfl) ⟨Nat.le_of_ble_eq_true rfl, Nat.le_of_ble_eq_true rfl⟩ ⟨Nat.le_of_ble_eq_true rfl, Nat.le_of_ble_eq_true rfl⟩ (As := [.int (s 0), .int (nI 22)]) (c_mright (Q := fun o G9 => o = .inl (some (.int (rotW (s 0) 22 10))) ∧ G9 = hup (hup G 147 (IA 64 w)) 151 (IA 16 s)) (by decide) ⟨rfl, rfl⟩) (fun o G9 h => ?_) (fun E G' h => by cases h.1)
    obtain ⟨h, rfl⟩ := h
    cases h
    refine V_ixor rfl ?_
    refine V_iload rfl (by first | rfl | assumption) ?_
    refine V_aload_n rfl (by first | rfl | assumption) ?_
    refine V_getf rfl rfl rfl (by repeat (first | exact hup_eq | assumption | refine Eq.trans (hup_ne (by first | assumption | exact Ne.symm (by assumption) | decide | omega)) ?_)) (by first | rfl | assumption) ?_
    refine V_iconst (v := nI 1) rfl (by decide) ?_
    refine V_ialdJ rfl (by repeat (first | exact hup_eq | assumption | refine Eq.trans (hup_ne (by first | assumption | exact Ne.symm (by assumption) | decide | omega)) ?_)) rfl (by first | omega | decide) (by first | omega | decide) ?_
    refine V_iand rfl ?_
    refine V_iload rfl (by first | rfl | assumption) ?_
    refine V_aload_n rfl (by first | rfl | assumption) ?_
    refine V_getf rfl rfl rfl (by repeat (first | exact hup_eq | assumption | refine Eq.trans (hup_ne (by first | assumption | exact Ne.symm (by assumption) | decide | omega)) ?_)) (by first | rfl | assumption) ?_
    refine V_iconst (v := nI 2) rfl (by decide) ?_
    refine V_ialdJ rfl (by repeat (first | exact hup_eq | assumption | refine Eq.trans (hup_ne (by first | assumption | exact Ne.symm (by assumption) | decide | omega)) ?_)) rfl (by first | omega | decide) (by first | omega | decide) ?_
    refine V_iand rfl ?_
    refine V_ixor rfl ?_
    refine V_aload_n rfl (by first | rfl | assumption) ?_
    refine V_getf rfl rfl rfl (by repeat (first | exact hup_eq | assumption | refine Eq.trans (hup_ne (by first | assumption | exact Ne.symm (by assumption) | decide | omega)) ?_)) (by first | rfl | assumption) ?_
    refine V_iconst (v := nI 1) rfl (by decide) ?_
    refine V_ialdJ rfl (by repeat (first | exact hup_eq | assumption | refine Eq.trans (hup_ne (by first | assumption | exact Ne.symm (by assumption) | decide | omega)) ?_)) rfl (by first | omega | decide) (by first | omega | decide) ?_
    refine V_aload_n rfl (by first | rfl | assumption) ?_
    refine V_getf rfl rfl rfl (by repeat (first | exact hup_eq | assumption | refine Eq.trans (hup_ne (by first | assumption | exact Ne.symm (by assumption) | decide | omega)) ?_)) (by first | rfl | assumption) ?_
    refine V_iconst (v := nI 2) rfl (by decide) ?_
    refine V_ialdJ rfl (by repeat (first | exact hup_eq | assumption | refine Eq.trans (hup_ne (by first | assumption | exact Ne.symm (by assumption) | decide | omega)) ?_)) rfl (by first | omega | decide) (by first | omega | decide) ?_
    refine V_iand rfl ?_
    refine V_ixor rfl ?_
    refine V_iadd rfl ?_
    refine V_istore rfl (by decide) ?_
    refine V_bipush (v := nI 7) rfl (by decide) ?_
    refine V_istore rfl (by decide) ?_
    refine V_loop 7 (fun k lc9 G' => lc9 0 = some (.ref 140) ∧ lc9 2 = some (.int (nI i)) ∧ lc9 5 = some (.int (s 7 + (rotW (s 4) 6 26 ^^^ rotW (s 4) 11 21 ^^^ rotW (s 4) 25 7) + (s 4 &&& s 5 ^^^ (s 4 ^^^ (-1)) &&& s 6) + r i + w i)) ∧ lc9 6 = some (.int ((rotW (s 0) 2 30 ^^^ rotW (s 0) 13 19 ^^^ rotW (s 0) 22 10) + (s 0 &&& s 1 ^^^ s 0 &&& s 2 ^^^ s 1 &&& s 2))) ∧ lc9 7 = some (.int (nI (7 - k))) ∧ G' = hup (hup G 147 (IA 64 w)) 151 (IA 16 (shf s k))) ?_ ?_ 0 _ _ (Nat.zero_le _) ⟨l0, l2, rfl, rfl, rfl, by rw [show shf s 0 = s from funext (fun j => by unfold shf; rw [if_neg (by omega)])]⟩
    · rintro k lc G' hk ⟨l0, l2, l5, l6, l7, rfl⟩ ih2
      refine V_iload rfl (by first | rfl | assumption) ?_
      refine V_if_leN rfl (by omega) (fun h => absurd h (by omega)) (fun _ => ?_)
      refine V_aload_n rfl (by first | rfl | assumption) ?_
      refine V_getf rfl rfl rfl (by repeat (first | exact hup_eq | assumption | refine Eq.trans (hup_ne (by first | assumption | exact Ne.symm (by assumption) | decide | omega)) ?_)) (by first | rfl | assumption) ?_
      refine V_iload rfl (by first | rfl | assumption) ?_
      refine V_aload_n rfl (by first | rfl | assumption) ?_
      refine V_getf rfl rfl rfl (by repeat (first | exact hup_eq | assumption | refine Eq.trans (hup_ne (by first | assumption | exact Ne.symm (by assumption) | decide | omega)) ?_)) (by first | rfl | assumption) ?_
      refine V_iload rfl (by first | rfl | assumption) ?_
      refine V_iconst (v := nI 1) rfl (by decide) ?_
      refine V_isubN rfl (by first | omega | decide) ?_
      refine V_ialdJ rfl (by repeat (first | exact hup_eq | assumption | refine Eq.trans (hup_ne (by first | assumption | exact Ne.symm (by assumption) | decide | omega)) ?_)) rfl (by first | omega | decide) (by first | omega | decide) ?_
      refine V_iastJ rfl (by repeat (first | exact hup_eq | assumption | refine Eq.trans (hup_ne (by first | assumption | exact Ne.symm (by assumption) | decide | omega)) ?_)) rfl (by first | omega | decide) (by first | omega | decide) ?_
      refine V_iinc (v := nI (7 - (k + 1))) rfl (by assumption) (by rw [nI_dec 1 (by decide) (by omega), Nat.sub_sub]) (by decide) ?_
      refine V_goto rfl ?_
      rw [hup_hup, shf_s hk]
      exact ih2 _ _ ⟨l0, l2, l5, l6, rfl, rfl⟩
    · rintro lc G' ⟨l0, l2, l5, l6, l7, rfl⟩
      refine V_iload rfl (by first | rfl | assumption) ?_
      refine V_if_leN rfl (by decide) (fun _ => ?_) (fun h => absurd h (by decide))
      refine V_aload_n rfl (by first | rfl | assumption) ?_
      refine V_getf rfl rfl rfl (by repeat (first | exact hup_eq | assumption | refine Eq.trans (hup_ne (by first | assumption | exact Ne.symm (by assumption) | decide | omega)) ?_)) (by first | rfl | assumption) ?_
      refine V_iconst (v := nI 4) rfl (by decide) ?_
      refine V_aload_n rfl (by first | rfl | assumption) ?_
      refine V_getf rfl rfl rfl (by repeat (first | exact hup_eq | assumption | refine Eq.trans (hup_ne (by first | assumption | exact Ne.symm (by assumption) | decide | omega)) ?_)) (by first | rfl | assumption) ?_
      refine V_iconst (v := nI 4) rfl (by decide) ?_
      refine V_ialdJ rfl (by repeat (first | exact hup_eq | assumption | refine Eq.trans (hup_ne (by first | assumption | exact Ne.symm (by assumption) | decide | omega)) ?_)) rfl (by first | omega | decide) (by first | omega | decide) ?_
      refine V_iload rfl (by first | rfl | assumption) ?_
      refine V_iadd rfl ?_
      refine V_iastJ rfl (by repeat (first | exact hup_eq | assumption | refine Eq.trans (hup_ne (by first | assumption | exact Ne.symm (by assumption) | decide | omega)) ?_)) rfl (by first | omega | decide) (by first | omega | decide) ?_
      refine V_aload_n rfl (by first | rfl | assumption) ?_
      refine V_getf rfl rfl rfl (by repeat (first | exact hup_eq | assumption | refine Eq.trans (hup_ne (by first | assumption | exact Ne.symm (by assumption) | decide | omega)) ?_)) (by first | rfl | assumption) ?_
      refine V_iconst (v := nI 0) rfl (by decide) ?_
      refine V_iload rfl (by first | rfl | assumption) ?_
      refine V_iload rfl (by first | rfl | assumption) ?_
      refine V_iadd rfl ?_
      refine V_iastJ rfl (by repeat (first | exact hup_eq | assumption | refine Eq.trans (hup_ne (by first | assumption | exact Ne.symm (by assumption) | decide | omega)) ?_)) rfl (by first | omega | decide) (by first | omega | decide) ?_
      refine V_iincN (d := 1) rfl (by first | rfl | assumption) (by decide) (by decide) ?_
      refine V_goto rfl ?_
      rw [hup_hup, hup_hup]
      exact ih _ _ ⟨l0, rfl, _, rn_step (r := r) (w := w) (t := i) hs9 rfl rfl, rfl⟩
  rintro lc G' ⟨l0, l2, s, hs9, rfl⟩
  refine V_iload_n rfl (by first | rfl | assumption) ?_
  refine V_bipush (v := nI 64) rfl (by decide) ?_
  refine V_icmp_geN rfl (by decide) (by decide) (fun _ => ?_) (fun h => absurd (Nat.le_refl _) h)
  refine V_iconst (v := nI 0) rfl (by decide) ?_
  refine V_istore_n rfl (by decide) ?_
  refine V_loop 8 (fun i lc G' => lc 0 = some (.ref 140) ∧ lc 2 = some (.int (nI i)) ∧ ∃ h, (∀ j, j < i → h j = h0 j + s j) ∧ (∀ j, i ≤ j → h j = h0 j) ∧ G' = hup (hup (hup G 147 (IA 64 w)) 151 (IA 16 s)) 148 (IA 8 h)) ?_ ?_ 0 _ _ (Nat.zero_le _) ⟨l0, rfl, h0, fun j hj => absurd hj (Nat.not_lt_zero j), fun _ _ => rfl, (hup_same ((hup_ne (by decide)).trans ((hup_ne (by decide)).trans g148))).symm⟩
  · rintro i lc G' hi ⟨l0, l2, h, h1, h2, rfl⟩ ih
    refine V_iload_n rfl (by first | rfl | assumption) ?_
    refine V_bipush (v := nI 8) rfl (by decide) ?_
    refine V_icmp_geN rfl (by omega) (by decide) (fun h => absurd h (by omega)) (fun _ => ?_)
    refine V_aload_n rfl (by first | rfl | assumption) ?_
    refine V_getf rfl rfl rfl (by repeat (first | exact hup_eq | assumption | refine Eq.trans (hup_ne (by first | assumption | exact Ne.symm (by assumption) | decide | omega)) ?_)) (by first | rfl | assumption) ?_
    refine V_iload_n rfl (by first | rfl | assumption) ?_
    refine V_aload_n rfl (by first | rfl | assumption) ?_
    refine V_getf rfl rfl rfl (by repeat (first | exact hup_eq | assumption | refine Eq.trans (hup_ne (by first | assumption | exact Ne.symm (by assumption) | decide | omega)) ?_)) (by first | rfl | assumption) ?_
    refine V_iload_n rfl (by first | rfl | assumption) ?_
    refine V_ialdJ rfl (by repeat (first | exact hup_eq | assumption | refine Eq.trans (hup_ne (by first | assumption | exact Ne.symm (by assumption) | decide | omega)) ?_)) rfl (by first | omega | decide) (by first | omega | decide) ?_
    refine V_aload_n rfl (by first | rfl | assumption) ?_
    refine V_getf rfl rfl rfl (by repeat (first | exact hup_eq | assumption | refine Eq.trans (hup_ne (by first | assumption | exact Ne.symm (by assumption) | decide | omega)) ?_)) (by first | rfl | assumption) ?_
    refine V_iload_n rfl (by first | rfl | assumption) ?_
    refine V_ialdJ rfl (by repeat (first | exact hup_eq | assumption | refine Eq.trans (hup_ne (by first | assumption | exact Ne.symm (by assumption) | decide | omega)) ?_)) rfl (by first | omega | decide) (by first | omega | decide) ?_
    refine V_iadd rfl ?_
    refine V_iastJ rfl (by repeat (first | exact hup_eq | assumption | refine Eq.trans (hup_ne (by first | assumption | exact Ne.symm (by assumption) | decide | omega)) ?_)) rfl (by first | omega | decide) (by first | omega | decide) ?_
    refine V_iincN (d := 1) rfl (by first | rfl | assumption) (by decide) (by decide) ?_
    refine V_goto rfl ?_
    rw [hup_hup]
    refine ih _ _ ⟨l0, rfl, _, fun j hj => ?_, fun j hj => ?_, rfl⟩
    · by_cases e : j = i
      · subst e; rw [pk_us, h2 j (Nat.le_refl _)]
      · rw [pk_un e]; exact h1 j (by omega)
    · rw [pk_un (by omega)]; exact h2 j (by omega)
  · rintro lc G' ⟨l0, l2, h, h1, h2, rfl⟩
    refine V_iload_n rfl (by first | rfl | assumption) ?_
    refine V_bipush (v := nI 8) rfl (by decide) ?_
    refine V_icmp_geN rfl (by decide) (by decide) (fun _ => ?_) (fun h => absurd (Nat.le_refl _) h)
    refine V_vret rfl rfl (hq w s h (fun j hj => ?_))
    rw [h1 j hj, hs9 j hj]
    unfold mixF
    rw [rns_congr 64 (w' := exw (bW b at9) 48) (fun j hj => hw j (by omega)) (fun _ _ => rfl)]
end MHash2
