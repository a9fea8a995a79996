section CStrm
variable {K : kK} {G : kG} {Q : kO → kG → Prop}
abbrev STO : kE := .inr (7, [.ref 21, .ref 22, .ref 23])
set_option maxHeartbeats 8000000 in
theorem c_fillFirst {k0 Nk n c : Nat} {key : Nat → Nat} {f0 : Nat → Int32} (g20 : G.1 20 = some STO) (g22 : G.1 22 = some (IA 16 f0)) (gk : G.1 k0 = some (BA Nk key)) (hNk : 32 ≤ Nk ∧ Nk < 2 ^ 20) (hk : k0 ≠ 22) (hkb : ∀ j, j < 32 → key j < 256) (hn : n < 2 ^ 63)
    (hq : ∀ f, (∀ j, j < 16 → f j = fF key n c j) → Q (.inl none) (hup G 22 (IA 16 f))) : C K 0 0 mX8_fillFirst [.ref 20, .ref k0, .long (lN n), .int (nI c)] G Q := by
  refine C_of okX8_fillFirst (Nat.le_of_ble_eq_true rfl) ?_
  refine V_aload_n rfl (by first | rfl | assumption) ?_
  refine V_getf rfl rfl rfl (by repeat (first | exact hup_eq | assumption | refine Eq.trans (hup_ne (by first | assumption | exact Ne.symm (by assumption) | decide)) ?_)) (by first | rfl | assumption) ?_
  refine V_iconst (v := nI 0) rfl (by decide) ?_
  refine V_ldc (v := nI 1634760805) rfl kc_X8_36 ?_
  refine V_iastJ rfl (by repeat (first | exact hup_eq | assumption | refine Eq.trans (hup_ne (by first | assumption | exact Ne.symm (by assumption) | decide)) ?_)) rfl (by first | omega | decide) (by first | omega | decide) ?_
  refine V_aload_n rfl (by first | rfl | assumption) ?_
  refine V_getf rfl rfl rfl (by repeat (first | exact hup_eq | assumption | refine Eq.trans (hup_ne (by first | assumption | exact Ne.symm (by assumption) | decide)) ?_)) (by first | rfl | assumption) ?_
  refine V_iconst (v := nI 1) rfl (by decide) ?_
  refine V_ldc (v := nI 857760878) rfl kc_X8_37 ?_
  refine V_iastJ rfl (by repeat (first | exact hup_eq | assumption | refine Eq.trans (hup_ne (by first | assumption | exact Ne.symm (by assumption) | decide)) ?_)) rfl (by first | omega | decide) (by first | omega | decide) ?_
  refine V_aload_n rfl (by first | rfl | assumption) ?_
  refine V_getf rfl rfl rfl (by repeat (first | exact hup_eq | assumption | refine Eq.trans (hup_ne (by first | assumption | exact Ne.symm (by assumption) | decide)) ?_)) (by first | rfl | assumption) ?_
  refine V_iconst (v := nI 2) rfl (by decide) ?_
  refine V_ldc (v := nI 2036477234) rfl kc_X8_38 ?_
  refine V_iastJ rfl (by repeat (first | exact hup_eq | assumption | refine Eq.trans (hup_ne (by first | assumption | exact Ne.symm (by assumption) | decide)) ?_)) rfl (by first | omega | decide) (by first | omega | decide) ?_
  refine V_aload_n rfl (by first | rfl | assumption) ?_
  refine V_getf rfl rfl rfl (by repeat (first | exact hup_eq | assumption | refine Eq.trans (hup_ne (by first | assumption | exact Ne.symm (by assumption) | decide)) ?_)) (by first | rfl | assumption) ?_
  refine V_iconst (v := nI 3) rfl (by decide) ?_
  refine V_ldc (v := nI 1797285236) rfl kc_X8_39 ?_
  refine V_iastJ rfl (by repeat (first | exact hup_eq | assumption | refine Eq.trans (hup_ne (by first | assumption | exact Ne.symm (by assumption) | decide)) ?_)) rfl (by first | omega | decide) (by first | omega | decide) ?_
  refine V_iconst (v := nI 0) rfl (by decide) ?_
  refine V_istore rfl (by decide) ?_
  simp only [hup_hup]
  refine V_loop 8 (fun i lc G' => lc 0 = some (.ref 20) ∧ lc 1 = some (.ref k0) ∧ lc 2 = some (.long (lN n)) ∧ lc 3 = some kmk ∧ lc 4 = some (.int (nI c)) ∧ lc 5 = some (.int (nI i)) ∧ ∃ f, (∀ j, j < 4 + i → f j = fF key n c j) ∧ G' = hup G 22 (IA 16 f)) ?_ ?_ 0 _ _ (Nat.zero_le _) ⟨rfl, rfl, rfl, rfl, rfl, rfl, _, ?_, rfl⟩
  · rintro i lc G' hi ⟨l0, l1, l2, l3, l4, l5, f, hf, rfl⟩ ih
    refine V_iload rfl (by first | rfl | assumption) ?_
    refine V_bipush (v := nI 8) rfl (by decide) ?_
    refine V_icmp_geN rfl (by omega) (by decide) (fun h => absurd h (by omega)) (fun _ => ?_)
    refine V_iconst (v := nI 4) rfl (by decide) ?_
    refine V_iload rfl (by first | rfl | assumption) ?_
    refine V_imulN rfl ?_
    refine V_istore rfl (by decide) ?_
    refine V_aload_n rfl (by first | rfl | assumption) ?_
    refine V_getf rfl rfl rfl (by repeat (first | exact hup_eq | assumption | refine Eq.trans (hup_ne (by first | assumption | exact Ne.symm (by assumption) | decide)) ?_)) (by first | rfl | assumption) ?_
    refine V_iconst (v := nI 4) rfl (by decide) ?_
    refine V_iload rfl (by first | rfl | assumption) ?_
    refine V_iaddN rfl ?_
    refine V_aload_n rfl (by first | rfl | assumption) ?_
    refine V_iload rfl (by first | rfl | assumption) ?_
    refine V_ialdN rfl (by repeat (first | exact hup_eq | assumption | refine Eq.trans (hup_ne (by first | assumption | exact Ne.symm (by assumption) | decide)) ?_)) rfl (by first | omega | decide) (by first | omega | decide) ?_
    refine V_aload_n rfl (by first | rfl | assumption) ?_
    refine V_iload rfl (by first | rfl | assumption) ?_
    refine V_iconst (v := nI 1) rfl (by decide) ?_
    refine V_iaddN rfl ?_
    refine V_ialdN rfl (by repeat (first | exact hup_eq | assumption | refine Eq.trans (hup_ne (by first | assumption | exact Ne.symm (by assumption) | decide)) ?_)) rfl (by first | omega | decide) (by first | omega | decide) ?_
    refine V_bipush (v := nI 8) rfl (by decide) ?_
    refine V_ishlN rfl (by first | omega | decide) ?_
    refine V_ior rfl ?_
    refine V_aload_n rfl (by first | rfl | assumption) ?_
    refine V_iload rfl (by first | rfl | assumption) ?_
    refine V_iconst (v := nI 2) rfl (by decide) ?_
    refine V_iaddN rfl ?_
    refine V_ialdN rfl (by repeat (first | exact hup_eq | assumption | refine Eq.trans (hup_ne (by first | assumption | exact Ne.symm (by assumption) | decide)) ?_)) rfl (by first | omega | decide) (by first | omega | decide) ?_
    refine V_bipush (v := nI 16) rfl (by decide) ?_
    refine V_ishlN rfl (by first | omega | decide) ?_
    refine V_ior rfl ?_
    refine V_aload_n rfl (by first | rfl | assumption) ?_
    refine V_iload rfl (by first | rfl | assumption) ?_
    refine V_iconst (v := nI 3) rfl (by decide) ?_
    refine V_iaddN rfl ?_
    refine V_ialdN rfl (by repeat (first | exact hup_eq | assumption | refine Eq.trans (hup_ne (by first | assumption | exact Ne.symm (by assumption) | decide)) ?_)) rfl (by first | omega | decide) (by first | omega | decide) ?_
    refine V_bipush (v := nI 24) rfl (by decide) ?_
    refine V_ishlN rfl (by first | omega | decide) ?_
    refine V_ior rfl ?_
    rw [w4orL (hkb _ (by omega)) (hkb _ (by omega)) (hkb _ (by omega))]
    refine V_iastJ rfl (by repeat (first | exact hup_eq | assumption | refine Eq.trans (hup_ne (by first | assumption | exact Ne.symm (by assumption) | decide)) ?_)) rfl (by first | omega | decide) (by first | omega | decide) ?_
    refine V_iincN (d := 1) rfl (by first | rfl | assumption) (by decide) (by decide) ?_
    refine V_goto rfl ?_
    rw [hup_hup]
    refine ih _ _ ⟨l0, l1, l2, l3, l4, rfl, _, fun j hj => ?_, rfl⟩
    by_cases h : j = 4 + i
    · subst h
      rw [pk_us, fF_k hi]
      rfl
    · rw [pk_un h]
      exact hf j (by omega)
  · rintro lc G' ⟨l0, l1, l2, l3, l4, l5, f, hf, rfl⟩
    refine V_iload rfl (by first | rfl | assumption) ?_
    refine V_bipush (v := nI 8) rfl (by decide) ?_
    refine V_icmp_geN rfl (by decide) (by decide) (fun _ => ?_) (fun h => absurd (Nat.le_refl _) h)
    refine V_aload_n rfl (by first | rfl | assumption) ?_
    refine V_getf rfl rfl rfl (by repeat (first | exact hup_eq | assumption | refine Eq.trans (hup_ne (by first | assumption | exact Ne.symm (by assumption) | decide)) ?_)) (by first | rfl | assumption) ?_
    refine V_bipush (v := nI 12) rfl (by decide) ?_
    refine V_iload rfl (by first | rfl | assumption) ?_
    refine V_iastJ rfl (by repeat (first | exact hup_eq | assumption | refine Eq.trans (hup_ne (by first | assumption | exact Ne.symm (by assumption) | decide)) ?_)) rfl (by first | omega | decide) (by first | omega | decide) ?_
    refine V_aload_n rfl (by first | rfl | assumption) ?_
    refine V_getf rfl rfl rfl (by repeat (first | exact hup_eq | assumption | refine Eq.trans (hup_ne (by first | assumption | exact Ne.symm (by assumption) | decide)) ?_)) (by first | rfl | assumption) ?_
    refine V_bipush (v := nI 13) rfl (by decide) ?_
    refine V_iconst (v := nI 0) rfl (by decide) ?_
    refine V_iastJ rfl (by repeat (first | exact hup_eq | assumption | refine Eq.trans (hup_ne (by first | assumption | exact Ne.symm (by assumption) | decide)) ?_)) rfl (by first | omega | decide) (by first | omega | decide) ?_
    refine V_aload_n rfl (by first | rfl | assumption) ?_
    refine V_getf rfl rfl rfl (by repeat (first | exact hup_eq | assumption | refine Eq.trans (hup_ne (by first | assumption | exact Ne.symm (by assumption) | decide)) ?_)) (by first | rfl | assumption) ?_
    refine V_bipush (v := nI 14) rfl (by decide) ?_
    refine V_iconst (v := nI 0) rfl (by decide) ?_
    refine V_iastJ rfl (by repeat (first | exact hup_eq | assumption | refine Eq.trans (hup_ne (by first | assumption | exact Ne.symm (by assumption) | decide)) ?_)) rfl (by first | omega | decide) (by first | omega | decide) ?_
    refine V_aload_n rfl (by first | rfl | assumption) ?_
    refine V_getf rfl rfl rfl (by repeat (first | exact hup_eq | assumption | refine Eq.trans (hup_ne (by first | assumption | exact Ne.symm (by assumption) | decide)) ?_)) (by first | rfl | assumption) ?_
    refine V_bipush (v := nI 15) rfl (by decide) ?_
    refine V_iconst (v := nI 0) rfl (by decide) ?_
    refine V_iastJ rfl (by repeat (first | exact hup_eq | assumption | refine Eq.trans (hup_ne (by first | assumption | exact Ne.symm (by assumption) | decide)) ?_)) rfl (by first | omega | decide) (by first | omega | decide) ?_
    refine V_iconst (v := nI 0) rfl (by decide) ?_
    refine V_istore rfl (by decide) ?_
    simp only [hup_hup]
    refine V_loop 4 (fun i lc G' => lc 0 = some (.ref 20) ∧ lc 2 = some (.long (lN n)) ∧ lc 3 = some kmk ∧ lc 5 = some (.int (nI (8 * i))) ∧ ∃ f, (∀ j, j < 14 → f j = fF key n c j) ∧ f 14 = nI (p14 n i) ∧ f 15 = nI (p15 n i) ∧ G' = hup G 22 (IA 16 f)) ?_ ?_ 0 _ _ (Nat.zero_le _) ⟨l0, l2, l3, rfl, _, ?_, by rw [pk_un (by decide), pk_us]; simp only [p14], by rw [pk_us]; simp only [p15], rfl⟩
    · rintro i lc G' hi ⟨l0, l2, l3, l5, f, hf, h14, h15, rfl⟩ ih
      refine V_iload rfl (by first | rfl | assumption) ?_
      refine V_bipush (v := nI 32) rfl (by decide) ?_
      refine V_icmp_geN rfl (by omega) (by decide) (fun h => absurd h (by omega)) (fun _ => ?_)
      refine V_aload_n rfl (by first | rfl | assumption) ?_
      refine V_getf rfl rfl rfl (by repeat (first | exact hup_eq | assumption | refine Eq.trans (hup_ne (by first | assumption | exact Ne.symm (by assumption) | decide)) ?_)) (by first | rfl | assumption) ?_
      refine V_bipush (v := nI 14) rfl (by decide) ?_
      refine V_dup2 rfl rfl rfl ?_
      refine V_ialdJ rfl (by repeat (first | exact hup_eq | assumption | refine Eq.trans (hup_ne (by first | assumption | exact Ne.symm (by assumption) | decide)) ?_)) rfl (by first | omega | decide) (by first | omega | decide) ?_
      refine V_lload_n rfl (by first | rfl | assumption) (by first | rfl | assumption) ?_
      refine V_bipush (v := nI 56) rfl (by decide) ?_
      refine V_iload rfl (by first | rfl | assumption) ?_
      refine V_isubN rfl (by first | omega | decide) ?_
      refine V_lushrN rfl (by omega) (by first | omega | decide) ?_
      refine V_ldc2 (v := lN 255) rfl kc_X8_40 ?_
      refine V_landN 8 rfl (by decide) (by decide) (by exact Nat.lt_of_le_of_lt (Nat.div_le_self _ _) (by omega)) ?_
      refine V_l2iN rfl ?_
      refine V_iload rfl (by first | rfl | assumption) ?_
      refine V_ishlN rfl (by first | omega | decide) ?_
      rw [h14]
      refine V_ior rfl ?_
      rw [p14_s hi]
      refine V_iastJ rfl (by repeat (first | exact hup_eq | assumption | refine Eq.trans (hup_ne (by first | assumption | exact Ne.symm (by assumption) | decide)) ?_)) rfl (by first | omega | decide) (by first | omega | decide) ?_
      refine V_aload_n rfl (by first | rfl | assumption) ?_
      refine V_getf rfl rfl rfl (by repeat (first | exact hup_eq | assumption | refine Eq.trans (hup_ne (by first | assumption | exact Ne.symm (by assumption) | decide)) ?_)) (by first | rfl | assumption) ?_
      refine V_bipush (v := nI 15) rfl (by decide) ?_
      refine V_dup2 rfl rfl rfl ?_
      refine V_ialdJ rfl (by repeat (first | exact hup_eq | assumption | refine Eq.trans (hup_ne (by first | assumption | exact Ne.symm (by assumption) | decide)) ?_)) rfl (by first | omega | decide) (by first | omega | decide) ?_
      refine V_lload_n rfl (by first | rfl | assumption) (by first | rfl | assumption) ?_
      refine V_bipush (v := nI 24) rfl (by decide) ?_
      refine V_iload rfl (by first | rfl | assumption) ?_
      refine V_isubN rfl (by first | omega | decide) ?_
      refine V_lushrN rfl (by omega) (by first | omega | decide) ?_
      refine V_ldc2 (v := lN 255) rfl kc_X8_40 ?_
      refine V_landN 8 rfl (by decide) (by decide) (by exact Nat.lt_of_le_of_lt (Nat.div_le_self _ _) (by omega)) ?_
      refine V_l2iN rfl ?_
      refine V_iload rfl (by first | rfl | assumption) ?_
      refine V_ishlN rfl (by first | omega | decide) ?_
      rw [pk_un (by decide), h15]
      refine V_ior rfl ?_
      rw [p15_s hi]
      refine V_iastJ rfl (by repeat (first | exact hup_eq | assumption | refine Eq.trans (hup_ne (by first | assumption | exact Ne.symm (by assumption) | decide)) ?_)) rfl (by first | omega | decide) (by first | omega | decide) ?_
      refine V_iincN (d := 8) rfl (by first | rfl | assumption) (by decide) (by decide) ?_
      refine V_goto rfl ?_
      simp only [hup_hup]
      refine ih _ _ ⟨l0, l2, l3, rfl, _, fun j hj => ?_, ?_, ?_, rfl⟩
      · rw [pk_un (by omega), pk_un (by omega)]; exact hf j hj
      · rw [pk_un (by decide), pk_us]
      · rw [pk_us]
    · rintro lc G' ⟨l0, l2, l3, l5, f, hf, h14, h15, rfl⟩
      refine V_iload rfl (by first | rfl | assumption) ?_
      refine V_bipush (v := nI 32) rfl (by decide) ?_
      refine V_icmp_geN rfl (by decide) (by decide) (fun _ => ?_) (fun h => absurd (by decide) h)
      refine V_vret rfl rfl (hq f (fun j hj => ?_))
      by_cases h : j < 14
      · exact hf j h
      · have : j = 14 ∨ j = 15 := by omega
        rcases this with rfl | rfl
        · rw [h14, fF_14]
        · rw [h15, fF_15]
    · intro j hj
      rw [pk_un (by omega), pk_un (by omega)]
      by_cases h1 : j = 13
      · subst h1; rw [pk_us, fF_13]
      · rw [pk_un h1]
        by_cases h2 : j = 12
        · subst h2; rw [pk_us, fF_12]
        · rw [pk_un h2]
          exact hf j (by omega)
  · intro j hj
    have : j = 0 ∨ j = 1 ∨ j = 2 ∨ j = 3 := by omega
    rcases this with rfl | rfl | rfl | rfl
    · rw [fF_lo (by decide), pk_un (by decide), pk_un (by decide), pk_un (by decide), pk_us]; simp only [cst4]
    · rw [fF_lo (by decide), pk_un (by decide), pk_un (by decide), pk_us]; simp only [cst4]
    · rw [fF_lo (by decide), pk_un (by decide), pk_us]; simp only [cst4]
    · rw [fF_lo (by decide), pk_us]; simp only [cst4]
set_option maxHeartbeats 8000000 in
theorem c_quarter {A B C9 D : Nat} {w : Nat → Int32} (g20 : G.1 20 = some STO) (g23 : G.1 23 = some (IA 16 w)) (hA : A < 16) (hB : B < 16) (hC : C9 < 16) (hD : D < 16) (hq : Q (.inl none) (hup G 23 (IA 16 (qtr w A B C9 D)))) : C K 0 0 mX8_quarter [.ref 20, .int (nI A), .int (nI B), .int (nI C9), .int (nI D)] G Q := by
  refine C_of okX8_quarter (Nat.le_of_ble_eq_true rfl) ?_
  refine V_aload_n rfl (by first | rfl | assumption) ?_
  refine V_getf rfl rfl rfl (by repeat (first | exact hup_eq | assumption | refine Eq.trans (hup_ne (by first | assumption | exact Ne.symm (by assumption) | decide)) ?_)) (by first | rfl | assumption) ?_
  refine V_iload_n rfl (by first | rfl | assumption) ?_
  refine V_ialdJ rfl (by repeat (first | exact hup_eq | assumption | refine Eq.trans (hup_ne (by first | assumption | exact Ne.symm (by assumption) | decide)) ?_)) rfl (by first | omega | decide) (by first | omega | decide) ?_
  refine V_istore rfl (by decide) ?_
  refine V_aload_n rfl (by first | rfl | assumption) ?_
  refine V_getf rfl rfl rfl (by repeat (first | exact hup_eq | assumption | refine Eq.trans (hup_ne (by first | assumption | exact Ne.symm (by assumption) | decide)) ?_)) (by first | rfl | assumption) ?_
  refine V_iload_n rfl (by first | rfl | assumption) ?_
  refine V_ialdJ rfl (by repeat (first | exact hup_eq | assumption | refine Eq.trans (hup_ne (by first | assumption | exact Ne.symm (by assumption) | decide)) ?_)) rfl (by first | omega | decide) (by first | omega | decide) ?_
  refine V_istore rfl (by decide) ?_
  refine V_aload_n rfl (by first | rfl | assumption) ?_
  refine V_getf rfl rfl rfl (by repeat (first | exact hup_eq | assumption | refine Eq.trans (hup_ne (by first | assumption | exact Ne.symm (by assumption) | decide)) ?_)) (by first | rfl | assumption) ?_
  refine V_iload_n rfl (by first | rfl | assumption) ?_
  refine V_ialdJ rfl (by repeat (first | exact hup_eq | assumption | refine Eq.trans (hup_ne (by first | assumption | exact Ne.symm (by assumption) | decide)) ?_)) rfl (by first | omega | decide) (by first | omega | decide) ?_
  refine V_istore rfl (by decide) ?_
  refine V_aload_n rfl (by first | rfl | assumption) ?_
  refine V_getf rfl rfl rfl (by repeat (first | exact hup_eq | assumption | refine Eq.trans (hup_ne (by first | assumption | exact Ne.symm (by assumption) | decide)) ?_)) (by first | rfl | assumption) ?_
  refine V_iload rfl (by first | rfl | assumption) ?_
  refine V_ialdJ rfl (by repeat (first | exact hup_eq | assumption | refine Eq.trans (hup_ne (by first | assumption | exact Ne.symm (by assumption) | decide)) ?_)) rfl (by first | omega | decide) (by first | omega | decide) ?_
  refine V_istore rfl (by decide) ?_
  refine V_iload rfl (by first | rfl | assumption) ?_
  refine V_iload rfl (by first | rfl | assumption) ?_
  refine V_iadd rfl ?_
  refine V_istore rfl (by decide) ?_
  refine V_iload rfl (by first | rfl | assumption) ?_
  refine V_iload rfl (by first | rfl | assumption) ?_
  refine V_ixor rfl ?_
  refine V_bipush (v := nI 16) rfl (by decide) ?_
  refine V_ishl rfl ?_
  refine V_iload rfl (by first | rfl | assumption) ?_
  refine V_iload rfl (by first | rfl | assumption) ?_
  refine V_ixor rfl ?_
  refine V_bipush (v := nI 16) rfl (by decide) ?_
  refine V_iushr rfl ?_
  refine V_ior rfl ?_
  refine V_istore rfl (by decide) ?_
  refine V_iload rfl (by first | rfl | assumption) ?_
  refine V_iload rfl (by first | rfl | assumption) ?_
  refine V_iadd rfl ?_
  refine V_istore rfl (by decide) ?_
  refine V_iload rfl (by first | rfl | assumption) ?_
  refine V_iload rfl (by first | rfl | assumption) ?_
  refine V_ixor rfl ?_
  refine V_bipush (v := nI 12) rfl (by decide) ?_
  refine V_ishl rfl ?_
  refine V_iload rfl (by first | rfl | assumption) ?_
  refine V_iload rfl (by first | rfl | assumption) ?_
  refine V_ixor rfl ?_
  refine V_bipush (v := nI 20) rfl (by decide) ?_
  refine V_iushr rfl ?_
  refine V_ior rfl ?_
  refine V_istore rfl (by decide) ?_
  refine V_iload rfl (by first | rfl | assumption) ?_
  refine V_iload rfl (by first | rfl | assumption) ?_
  refine V_iadd rfl ?_
  refine V_istore rfl (by decide) ?_
  refine V_iload rfl (by first | rfl | assumption) ?_
  refine V_iload rfl (by first | rfl | assumption) ?_
  refine V_ixor rfl ?_
  refine V_bipush (v := nI 8) rfl (by decide) ?_
  refine V_ishl rfl ?_
  refine V_iload rfl (by first | rfl | assumption) ?_
  refine V_iload rfl (by first | rfl | assumption) ?_
  refine V_ixor rfl ?_
  refine V_bipush (v := nI 24) rfl (by decide) ?_
  refine V_iushr rfl ?_
  refine V_ior rfl ?_
  refine V_istore rfl (by decide) ?_
  refine V_iload rfl (by first | rfl | assumption) ?_
  refine V_iload rfl (by first | rfl | assumption) ?_
  refine V_iadd rfl ?_
  refine V_istore rfl (by decide) ?_
  refine V_iload rfl (by first | rfl | assumption) ?_
  refine V_iload rfl (by first | rfl | assumption) ?_
  refine V_ixor rfl ?_
  refine V_bipush (v := nI 7) rfl (by decide) ?_
  refine V_ishl rfl ?_
  refine V_iload rfl (by first | rfl | assumption) ?_
  refine V_iload rfl (by first | rfl | assumption) ?_
  refine V_ixor rfl ?_
  refine V_bipush (v := nI 25) rfl (by decide) ?_
  refine V_iushr rfl ?_
  refine V_ior rfl ?_
  refine V_istore rfl (by decide) ?_
  refine V_aload_n rfl (by first | rfl | assumption) ?_
  refine V_getf rfl rfl rfl (by repeat (first | exact hup_eq | assumption | refine Eq.trans (hup_ne (by first | assumption | exact Ne.symm (by assumption) | decide)) ?_)) (by first | rfl | assumption) ?_
  refine V_iload_n rfl (by first | rfl | assumption) ?_
  refine V_iload rfl (by first | rfl | assumption) ?_
  refine V_iastJ rfl (by repeat (first | exact hup_eq | assumption | refine Eq.trans (hup_ne (by first | assumption | exact Ne.symm (by assumption) | decide)) ?_)) rfl (by first | omega | decide) (by first | omega | decide) ?_
  refine V_aload_n rfl (by first | rfl | assumption) ?_
  refine V_getf rfl rfl rfl (by repeat (first | exact hup_eq | assumption | refine Eq.trans (hup_ne (by first | assumption | exact Ne.symm (by assumption) | decide)) ?_)) (by first | rfl | assumption) ?_
  refine V_iload_n rfl (by first | rfl | assumption) ?_
  refine V_iload rfl (by first | rfl | assumption) ?_
  refine V_iastJ rfl (by repeat (first | exact hup_eq | assumption | refine Eq.trans (hup_ne (by first | assumption | exact Ne.symm (by assumption) | decide)) ?_)) rfl (by first | omega | decide) (by first | omega | decide) ?_
  refine V_aload_n rfl (by first | rfl | assumption) ?_
  refine V_getf rfl rfl rfl (by repeat (first | exact hup_eq | assumption | refine Eq.trans (hup_ne (by first | assumption | exact Ne.symm (by assumption) | decide)) ?_)) (by first | rfl | assumption) ?_
  refine V_iload_n rfl (by first | rfl | assumption) ?_
  refine V_iload rfl (by first | rfl | assumption) ?_
  refine V_iastJ rfl (by repeat (first | exact hup_eq | assumption | refine Eq.trans (hup_ne (by first | assumption | exact Ne.symm (by assumption) | decide)) ?_)) rfl (by first | omega | decide) (by first | omega | decide) ?_
  refine V_aload_n rfl (by first | rfl | assumption) ?_
  refine V_getf rfl rfl rfl (by repeat (first | exact hup_eq | assumption | refine Eq.trans (hup_ne (by first | assumption | exact Ne.symm (by assumption) | decide)) ?_)) (by first | rfl | assumption) ?_
  refine V_iload rfl (by first | rfl | assumption) ?_
  refine V_iload rfl (by first | rfl | assumption) ?_
  refine V_iastJ rfl (by repeat (first | exact hup_eq | assumption | refine Eq.trans (hup_ne (by first | assumption | exact Ne.symm (by assumption) | decide)) ?_)) rfl (by first | omega | decide) (by first | omega | decide) ?_
  simp only [hup_hup]
  exact V_vret rfl rfl hq
def smr (G : kG) : Prop := G.1 20 = some STO ∧ (∃ b, G.1 21 = some (BA 64 b)) ∧ (∃ f, G.1 22 = some (IA 16 f)) ∧ ∃ w, G.1 23 = some (IA 16 w)
theorem dbl_lt16 {qt : Nat → Nat} (hqt : ∀ j, j < 32 → qt j < 16) {w w' : Nat → Int32} (h : ∀ j, j < 16 → w j = w' j) : ∀ n, n ≤ 8 → ∀ j, j < 16 → qrs qt w n j = qrs qt w' n j
  | 0, _ => h
  | n + 1, hn => by
    simp only [qrs]
    exact qtr_congr (hqt _ (by omega)) (hqt _ (by omega)) (hqt _ (by omega)) (hqt _ (by omega)) (dbl_lt16 hqt h n (by omega))
set_option maxHeartbeats 8000000 in
theorem c_smake {k0 Nk n c : Nat} {key qt : Nat → Nat} (hQ : kSX K 3 = some (32, fun j => nI (qt j))) (hqt : ∀ j, j < 32 → qt j < 16) (hs : smr G) (gk : G.1 k0 = some (BA Nk key)) (hNk : 32 ≤ Nk ∧ Nk < 2 ^ 20) (hk : k0 ≠ 21 ∧ k0 ≠ 22) (hkb : ∀ j, j < 32 → key j < 256) (hn : n < 2 ^ 63)
    (hq : ∀ G' b, FR [21, 22, 23] G G' → smr G' → G'.1 21 = some (BA 64 b) → (∀ j, j < 64 → b j = STRM qt key n c j) → Q (.inl none) G') : C K 0 0 mX8_make [.ref 20, .ref k0, .long (lN n), .int (nI c)] G Q := by
  obtain ⟨g20, ⟨b0, g21⟩, ⟨f0, g22⟩, w0, g23⟩ := hs
  refine C_of okX8_make (Nat.le_of_ble_eq_true rfl) ?_
  refine V_aload_n rfl (by first | rfl | assumption) ?_
  refine V_aload_n rfl (by first | rfl | assumption) ?_
  refine V_lload_n rfl (by first | rfl | assumption) (by first | rfl | assumption) ?_
  refine V_iload rfl (by first | rfl | assumption) ?_
  refine V_callV (M' := mX8_fillFirst) (mc := 0) (ms := 0) (bc' := 0) (bs' := 0) rfl cw_X8_19 iv_X8_fillFirst (by repeat (first | exact hup_eq | assumption | refine Eq.trans (hup_ne (by first | assumption | exact Ne.symm (by assumption) | decide)) ?_)) rfl rfl (Nat.le_of_ble_eq_true rfl) ⟨Nat.le_of_ble_eq_true rfl, Nat.le_of_ble_eq_true rfl⟩ ⟨Nat.le_of_ble_eq_true rfl, Nat.le_of_ble_eq_true rfl⟩ (As := [.ref k0, .long (lN n), .int (nI c)]) (c_fillFirst (Q := fun o G' => o = .inl none ∧ ∃ f, (∀ j, j < 16 → f j = fF key n c j) ∧ G' = hup G 22 (IA 16 f)) g20 g22 gk hNk hk.2 hkb hn (fun f hf => ⟨rfl, f, hf, rfl⟩)) (fun o G' h => ?_) (fun E G' h => by cases h.1)
  obtain ⟨h, f, hf, rfl⟩ := h
  cases h
  refine V_aload_n rfl (by first | rfl | assumption) ?_
  refine V_getf rfl rfl rfl (by repeat (first | exact hup_eq | assumption | refine Eq.trans (hup_ne (by first | assumption | exact Ne.symm (by assumption) | decide)) ?_)) (by first | rfl | assumption) ?_
  refine V_iconst (v := nI 0) rfl (by decide) ?_
  refine V_aload_n rfl (by first | rfl | assumption) ?_
  refine V_getf rfl rfl rfl (by repeat (first | exact hup_eq | assumption | refine Eq.trans (hup_ne (by first | assumption | exact Ne.symm (by assumption) | decide)) ?_)) (by first | rfl | assumption) ?_
  refine V_iconst (v := nI 0) rfl (by decide) ?_
  refine V_bipush (v := nI 16) rfl (by decide) ?_
  refine V_copyi (st := []) rfl ⟨kk_X8_23, k_ac⟩ (f := f) (n0 := 16) hup_eq (by repeat (first | exact hup_eq | assumption | refine Eq.trans (hup_ne (by first | assumption | exact Ne.symm (by assumption) | decide)) ?_)) (by decide) (by decide) (by decide) (by decide) (by decide) (by decide) (by decide) ?_
  rw [show (nI 0).toNatClampNeg = 0 by decide, show (nI 16).toNatClampNeg = 16 by decide]
  obtain ⟨w1, hw1⟩ : ∃ w1, w1 = va_cpy f w0 0 0 16 := ⟨_, rfl⟩
  rw [← hw1]
  have hw : ∀ j, j < 16 → w1 j = dbl qt (fF key n c) 0 j := fun j hj => by
    rw [hw1, pk_cpy_in (by omega) (by omega)]
    simp only [dbl]
    rw [← hf j hj]
    congr 1
    omega
  clear hw1
  refine V_iconst (v := nI 0) rfl (by decide) ?_
  refine V_istore rfl (by decide) ?_
  refine V_loop 10 (fun i lc G' => lc 0 = some (.ref 20) ∧ lc 5 = some (.int (nI i)) ∧ ∃ w, (∀ j, j < 16 → w j = dbl qt (fF key n c) i j) ∧ G' = hup (hup G 22 (IA 16 f)) 23 (IA 16 w)) ?_ ?_ 0 _ _ (Nat.zero_le _) ⟨rfl, rfl, w1, hw, rfl⟩
  · rintro i lc G' hi ⟨l0, l5, w, hw, rfl⟩ ih
    refine V_iload rfl (by first | rfl | assumption) ?_
    refine V_bipush (v := nI 10) rfl (by decide) ?_
    refine V_icmp_geN rfl (by omega) (by decide) (fun h => absurd h (by omega)) (fun _ => ?_)
    refine V_iconst (v := nI 0) rfl (by decide) ?_
    refine V_istore rfl (by decide) ?_
    refine V_loop 8 (fun m lc G' => lc 0 = some (.ref 20) ∧ lc 5 = some (.int (nI i)) ∧ lc 6 = some (.int (nI (4 * m))) ∧ G' = hup (hup G 22 (IA 16 f)) 23 (IA 16 (qrs qt w m))) ?_ ?_ 0 _ _ (Nat.zero_le _) ⟨l0, l5, rfl, rfl⟩
    · rintro m lc G' hm ⟨l0, l5, l6, rfl⟩ ih2
      refine V_iload rfl (by first | rfl | assumption) ?_
      refine V_gets (j := 3) rfl rfl ks_X8_29 ?_
      refine V_slen rfl (by assumption) ?_
      refine V_icmp_geN rfl (by omega) (by decide) (fun h => absurd h (by omega)) (fun _ => ?_)
      refine V_aload_n rfl (by first | rfl | assumption) ?_
      refine V_gets (j := 3) rfl rfl ks_X8_29 ?_
      refine V_iload rfl (by first | rfl | assumption) ?_
      refine V_isldJ rfl (by assumption) rfl (by first | omega | decide) (by decide) ?_
      refine V_gets (j := 3) rfl rfl ks_X8_29 ?_
      refine V_iload rfl (by first | rfl | assumption) ?_
      refine V_iconst (v := nI 1) rfl (by decide) ?_
      refine V_iaddN rfl ?_
      refine V_isldJ rfl (by assumption) rfl (by first | omega | decide) (by decide) ?_
      refine V_gets (j := 3) rfl rfl ks_X8_29 ?_
      refine V_iload rfl (by first | rfl | assumption) ?_
      refine V_iconst (v := nI 2) rfl (by decide) ?_
      refine V_iaddN rfl ?_
      refine V_isldJ rfl (by assumption) rfl (by first | omega | decide) (by decide) ?_
      refine V_gets (j := 3) rfl rfl ks_X8_29 ?_
      refine V_iload rfl (by first | rfl | assumption) ?_
      refine V_iconst (v := nI 3) rfl (by decide) ?_
      refine V_iaddN rfl ?_
      refine V_isldJ rfl (by assumption) rfl (by first | omega | decide) (by decide) ?_
      refine V_callV (M' := mX8_quarter) (mc := 0) (ms := 0) (bc' := 0) (bs' := 0) rfl cw_X8_32 iv_X8_quarter (by repeat (first | exact hup_eq | assumption | refine Eq.trans (hup_ne (by first | assumption | exact Ne.symm (by assumption) | decide)) ?_)) rfl rfl (Nat.le_of_ble_eq_true rfl) ⟨Nat.le_of_ble_eq_true rfl, Nat.le_of_ble_eq_true rfl⟩ ⟨Nat.le_of_ble_eq_true rfl, Nat.le_of_ble_eq_true rfl⟩ (As := [.int (nI (qt (4 * m))), .int (nI (qt (4 * m + 1))), .int (nI (qt (4 * m + 2))), .int (nI (qt (4 * m + 3)))]) (c_quarter (w := qrs qt w m) (Q := fun o G' => o = .inl none ∧ G' = hup (hup G 22 (IA 16 f)) 23 (IA 16 (qrs qt w (m + 1)))) (by repeat (first | exact hup_eq | assumption | refine Eq.trans (hup_ne (by first | assumption | exact Ne.symm (by assumption) | decide)) ?_)) (by repeat (first | exact hup_eq | assumption | refine Eq.trans (hup_ne (by first | assumption | exact Ne.symm (by assumption) | decide)) ?_)) (hqt _ (by omega)) (hqt _ (by omega)) (hqt _ (by omega)) (hqt _ (by omega)) ⟨rfl, by rw [hup_hup]; rfl⟩) (fun o G' h => ?_) (fun E G' h => by cases h.1)
      obtain ⟨h, rfl⟩ := h
      cases h
      refine V_iincN (d := 4) rfl (by first | rfl | assumption) (by decide) (by decide) ?_
      refine V_goto rfl ?_
      exact ih2 _ _ ⟨l0, l5, rfl, rfl⟩
    · rintro lc G' ⟨l0, l5, l6, rfl⟩
      refine V_iload rfl (by first | rfl | assumption) ?_
      refine V_gets (j := 3) rfl rfl ks_X8_29 ?_
      refine V_slen rfl (by assumption) ?_
      refine V_icmp_geN rfl (by decide) (by decide) (fun _ => ?_) (fun h => absurd (by decide) h)
      refine V_iincN (d := 1) rfl (by first | rfl | assumption) (by decide) (by decide) ?_
      refine V_goto rfl ?_
      refine ih _ _ ⟨l0, rfl, _, fun j hj => ?_, rfl⟩
      exact dbl_lt16 hqt hw 8 (by decide) j hj
  · rintro lc G' ⟨l0, l5, w, hw, rfl⟩
    refine V_iload rfl (by first | rfl | assumption) ?_
    refine V_bipush (v := nI 10) rfl (by decide) ?_
    refine V_icmp_geN rfl (by decide) (by decide) (fun _ => ?_) (fun h => absurd (by decide) h)
    refine V_iconst (v := nI 0) rfl (by decide) ?_
    refine V_istore rfl (by decide) ?_
    refine V_loop 64 (fun i lc G' => lc 0 = some (.ref 20) ∧ lc 5 = some (.int (nI i)) ∧ ∃ b, (∀ j, j < i → b j = STRM qt key n c j) ∧ G' = hup (hup (hup G 22 (IA 16 f)) 23 (IA 16 w)) 21 (BA 64 b)) ?_ ?_ 0 _ _ (Nat.zero_le _) ⟨l0, rfl, b0, fun j hj => absurd hj (Nat.not_lt_zero j), (hup_same (by exact g21)).symm⟩
    · rintro i lc G' hi ⟨l0, l5, b, hb, rfl⟩ ih
      refine V_iload rfl (by first | rfl | assumption) ?_
      refine V_bipush (v := nI 64) rfl (by decide) ?_
      refine V_icmp_geN rfl (by omega) (by decide) (fun h => absurd h (by omega)) (fun _ => ?_)
      refine V_aload_n rfl (by first | rfl | assumption) ?_
      refine V_getf rfl rfl rfl (by repeat (first | exact hup_eq | assumption | refine Eq.trans (hup_ne (by first | assumption | exact Ne.symm (by assumption) | decide)) ?_)) (by first | rfl | assumption) ?_
      refine V_iload rfl (by first | rfl | assumption) ?_
      refine V_aload_n rfl (by first | rfl | assumption) ?_
      refine V_getf rfl rfl rfl (by repeat (first | exact hup_eq | assumption | refine Eq.trans (hup_ne (by first | assumption | exact Ne.symm (by assumption) | decide)) ?_)) (by first | rfl | assumption) ?_
      refine V_iload rfl (by first | rfl | assumption) ?_
      refine V_iconst (v := nI 2) rfl (by decide) ?_
      refine V_ishrN rfl (by first | omega | decide) (by first | omega | decide) ?_
      refine V_ialdJ rfl (by repeat (first | exact hup_eq | assumption | refine Eq.trans (hup_ne (by first | assumption | exact Ne.symm (by assumption) | decide)) ?_)) rfl (by first | omega | decide) (by first | omega | decide) ?_
      refine V_aload_n rfl (by first | rfl | assumption) ?_
      refine V_getf rfl rfl rfl (by repeat (first | exact hup_eq | assumption | refine Eq.trans (hup_ne (by first | assumption | exact Ne.symm (by assumption) | decide)) ?_)) (by first | rfl | assumption) ?_
      refine V_iload rfl (by first | rfl | assumption) ?_
      refine V_iconst (v := nI 2) rfl (by decide) ?_
      refine V_ishrN rfl (by first | omega | decide) (by first | omega | decide) ?_
      refine V_ialdJ rfl (by repeat (first | exact hup_eq | assumption | refine Eq.trans (hup_ne (by first | assumption | exact Ne.symm (by assumption) | decide)) ?_)) rfl (by first | omega | decide) (by first | omega | decide) ?_
      refine V_iadd rfl ?_
      refine V_bipush (v := nI 8) rfl (by decide) ?_
      refine V_iload rfl (by first | rfl | assumption) ?_
      refine V_iconst (v := nI 3) rfl (by decide) ?_
      refine V_iandN 2 rfl (by decide) (by decide) ?_
      refine V_imulN rfl ?_
      refine V_iushr rfl ?_
      refine V_sipush (v := nI 255) rfl (by decide) ?_
      refine V_iand rfl ?_
      rw [ushr8 _ (by omega)]
      refine V_iastN rfl (by repeat (first | exact hup_eq | assumption | refine Eq.trans (hup_ne (by first | assumption | exact Ne.symm (by assumption) | decide)) ?_)) rfl (by first | omega | decide) (by first | omega | decide) ?_
      refine V_iincN (d := 1) rfl (by first | rfl | assumption) (by decide) (by decide) ?_
      refine V_goto rfl ?_
      rw [hup_hup]
      refine ih _ _ ⟨l0, rfl, _, fun j hj => ?_, rfl⟩
      by_cases h : j = i
      · subst h
        rw [updN_eq]
        unfold STRM sbyte
        rw [← hw (j / 4) (by omega), ← hf (j / 4) (by omega)]
      · rw [updN_ne h]
        exact hb j (by omega)
    · rintro lc G' ⟨l0, l5, b, hb, rfl⟩
      refine V_iload rfl (by first | rfl | assumption) ?_
      refine V_bipush (v := nI 64) rfl (by decide) ?_
      refine V_icmp_geN rfl (by decide) (by decide) (fun _ => ?_) (fun h => absurd (by decide) h)
      refine V_vret rfl rfl (hq _ b ⟨rfl, fun j hj => ?_⟩ ⟨g20, ⟨b, rfl⟩, ⟨f, rfl⟩, w, rfl⟩ rfl hb)
      simp only [List.mem_cons, List.not_mem_nil, or_false, not_or] at hj
      rw [hup_ne hj.1, hup_ne hj.2.2, hup_ne hj.2.1]
end CStrm
