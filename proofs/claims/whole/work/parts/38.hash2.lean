section CHash
variable {K : kK} {G : kG} {Q : kO → kG → Prop}
abbrev IA (N : Nat) (f : Nat → Int32) : kE := .inl (0, N, .inl f)
set_option maxHeartbeats 4000000 in
theorem c_spread {s n : Nat} {b : Nat → Nat} {w0 : Nat → Int32} (g14 : G.1 14 = some (.inr (3, [.ref 15, .ref 16, .ref 17]))) (g16 : G.1 16 = some (IA 64 w0)) (g17 : G.1 17 = some (.inr (5, [.ref 18, .int (nI n)]))) (g18 : G.1 18 = some (BA 640 b)) (hs : s + 64 ≤ 640) (hb : ∀ j, j < 64 → b (s + j) < 256)
    (hq : ∀ w, (∀ j, j < 64 → w j = exw (bW b s) 48 j) → Q (.inl none) (hup G 16 (IA 64 w))) : C K 0 0 mX3_spread [.ref 14, .int (nI s)] G Q := by
  refine C_of okX3_spread (Nat.le_of_ble_eq_true rfl) ?_
  refine V_aload_n rfl (by first | rfl | assumption) ?_
  refine V_getf rfl rfl rfl (by repeat (first | exact hup_eq | assumption | refine Eq.trans (hup_ne (by first | assumption | exact Ne.symm (by assumption) | decide)) ?_)) (by first | rfl | assumption) ?_
  refine V_getf rfl rfl rfl (by repeat (first | exact hup_eq | assumption | refine Eq.trans (hup_ne (by first | assumption | exact Ne.symm (by assumption) | decide)) ?_)) (by first | rfl | assumption) ?_
  refine V_astore_n rfl (by decide) ?_
  refine V_iconst (v := nI 0) rfl (by decide) ?_
  refine V_istore_n rfl (by decide) ?_
  refine V_loop 16 (fun i lc G' => lc 0 = some (.ref 14) ∧ lc 1 = some (.int (nI s)) ∧ lc 2 = some (.ref 18) ∧ lc 3 = some (.int (nI i)) ∧ ∃ w, (∀ j, j < i → w j = bW b s j) ∧ G' = hup G 16 (IA 64 w)) ?_ ?_ 0 _ _ (Nat.zero_le _) ⟨rfl, rfl, rfl, rfl, w0, fun j hj => absurd hj (Nat.not_lt_zero j), (hup_same g16).symm⟩
  · rintro i lc G' hi ⟨l0, l1, l2, l3, w, hw, rfl⟩ ih
    refine V_iload_n rfl (by first | rfl | assumption) ?_
    refine V_bipush (v := nI 16) rfl (by decide) ?_
    refine V_icmp_geN rfl (by omega) (by decide) (fun h => absurd h (by omega)) (fun _ => ?_)
    refine V_iload_n rfl (by first | rfl | assumption) ?_
    refine V_iconst (v := nI 4) rfl (by decide) ?_
    refine V_iload_n rfl (by first | rfl | assumption) ?_
    refine V_imulN rfl ?_
    refine V_iaddN rfl ?_
    refine V_istore rfl (by decide) ?_
    refine V_aload_n rfl (by first | rfl | assumption) ?_
    refine V_getf rfl rfl rfl (by repeat (first | exact hup_eq | assumption | refine Eq.trans (hup_ne (by first | assumption | exact Ne.symm (by assumption) | decide)) ?_)) (by first | rfl | assumption) ?_
    refine V_iload_n rfl (by first | rfl | assumption) ?_
    refine V_aload_n rfl (by first | rfl | assumption) ?_
    refine V_iload rfl (by first | rfl | assumption) ?_
    refine V_ialdN rfl (by repeat (first | exact hup_eq | assumption | refine Eq.trans (hup_ne (by first | assumption | exact Ne.symm (by assumption) | decide)) ?_)) rfl (by first | omega | decide) (by first | omega | decide) ?_
    refine V_bipush (v := nI 24) rfl (by decide) ?_
    refine V_ishlN rfl (by first | omega | decide) ?_
    refine V_aload_n rfl (by first | rfl | assumption) ?_
    refine V_iload rfl (by first | rfl | assumption) ?_
    refine V_iconst (v := nI 1) rfl (by decide) ?_
    refine V_iaddN rfl ?_
    refine V_ialdN rfl (by repeat (first | exact hup_eq | assumption | refine Eq.trans (hup_ne (by first | assumption | exact Ne.symm (by assumption) | decide)) ?_)) rfl (by first | omega | decide) (by first | omega | decide) ?_
    refine V_bipush (v := nI 16) rfl (by decide) ?_
    refine V_ishlN rfl (by first | omega | decide) ?_
    refine V_ior rfl ?_
    refine V_aload_n rfl (by first | rfl | assumption) ?_
    refine V_iload rfl (by first | rfl | assumption) ?_
    refine V_iconst (v := nI 2) rfl (by decide) ?_
    refine V_iaddN rfl ?_
    refine V_ialdN rfl (by repeat (first | exact hup_eq | assumption | refine Eq.trans (hup_ne (by first | assumption | exact Ne.symm (by assumption) | decide)) ?_)) rfl (by first | omega | decide) (by first | omega | decide) ?_
    refine V_bipush (v := nI 8) rfl (by decide) ?_
    refine V_ishlN rfl (by first | omega | decide) ?_
    refine V_ior rfl ?_
    refine V_aload_n rfl (by first | rfl | assumption) ?_
    refine V_iload rfl (by first | rfl | assumption) ?_
    refine V_iconst (v := nI 3) rfl (by decide) ?_
    refine V_iaddN rfl ?_
    refine V_ialdN rfl (by repeat (first | exact hup_eq | assumption | refine Eq.trans (hup_ne (by first | assumption | exact Ne.symm (by assumption) | decide)) ?_)) rfl (by first | omega | decide) (by first | omega | decide) ?_
    refine V_ior rfl ?_
    rw [w4or (by rw [Nat.add_assoc]; exact hb _ (by omega)) (by rw [Nat.add_assoc]; exact hb _ (by omega)) (by rw [Nat.add_assoc]; exact hb _ (by omega))]
    refine V_iastJ rfl (by repeat (first | exact hup_eq | assumption | refine Eq.trans (hup_ne (by first | assumption | exact Ne.symm (by assumption) | decide)) ?_)) rfl (by first | omega | decide) (by first | omega | decide) ?_
    refine V_iincN (d := 1) rfl (by first | rfl | assumption) (by decide) (by decide) ?_
    refine V_goto rfl ?_
    rw [hup_hup]
    refine ih _ _ ⟨l0, l1, l2, rfl, _, fun j hj => ?_, rfl⟩
    by_cases e : j = i
    · subst e
      rw [pk_us]; rfl
    · rw [pk_un e]
      exact hw j (by omega)
  · rintro lc G' ⟨l0, l1, l2, l3, w, hw, rfl⟩
    refine V_iload_n rfl (by first | rfl | assumption) ?_
    refine V_bipush (v := nI 16) rfl (by decide) ?_
    refine V_icmp_geN rfl (by decide) (by decide) (fun _ => ?_) (fun h => absurd (Nat.le_refl _) h)
    refine V_bipush (v := nI 16) rfl (by decide) ?_
    refine V_istore_n rfl (by decide) ?_
    refine V_loop 48 (fun i lc G' => lc 0 = some (.ref 14) ∧ lc 3 = some (.int (nI (16 + i))) ∧ ∃ w, (∀ j, j < 16 + i → w j = exw (bW b s) i j) ∧ G' = hup G 16 (IA 64 w)) ?_ ?_ 0 _ _ (Nat.zero_le _) ⟨l0, rfl, w, hw, rfl⟩
    · rintro i lc G' hi ⟨l0, l3, w, hw, rfl⟩ ih
      refine V_iload_n rfl (by first | rfl | assumption) ?_
      refine V_bipush (v := nI 64) rfl (by decide) ?_
      refine V_icmp_geN rfl (by omega) (by decide) (fun h => absurd h (by omega)) (fun _ => ?_)
      refine V_aload_n rfl (by first | rfl | assumption) ?_
      refine V_getf rfl rfl rfl (by repeat (first | exact hup_eq | assumption | refine Eq.trans (hup_ne (by first | assumption | exact Ne.symm (by assumption) | decide)) ?_)) (by first | rfl | assumption) ?_
      refine V_iload_n rfl (by first | rfl | assumption) ?_
      refine V_bipush (v := nI 15) rfl (by decide) ?_
      refine V_isubN rfl (by first | omega | decide) ?_
      refine V_ialdJ rfl (by repeat (first | exact hup_eq | assumption | refine Eq.trans (hup_ne (by first | assumption | exact Ne.symm (by assumption) | decide)) ?_)) rfl (by first | omega | decide) (by first | omega | decide) ?_
      refine V_istore rfl (by decide) ?_
      refine V_aload_n rfl (by first | rfl | assumption) ?_
      refine V_getf rfl rfl rfl (by repeat (first | exact hup_eq | assumption | refine Eq.trans (hup_ne (by first | assumption | exact Ne.symm (by assumption) | decide)) ?_)) (by first | rfl | assumption) ?_
      refine V_iload_n rfl (by first | rfl | assumption) ?_
      refine V_iconst (v := nI 2) rfl (by decide) ?_
      refine V_isubN rfl (by first | omega | decide) ?_
      refine V_ialdJ rfl (by repeat (first | exact hup_eq | assumption | refine Eq.trans (hup_ne (by first | assumption | exact Ne.symm (by assumption) | decide)) ?_)) rfl (by first | omega | decide) (by first | omega | decide) ?_
      refine V_istore rfl (by decide) ?_
      refine V_iload rfl (by first | rfl | assumption) ?_
      refine V_bipush (v := nI 7) rfl (by decide) ?_
      refine V_iushr rfl ?_
      refine V_iload rfl (by first | rfl | assumption) ?_
      refine V_bipush (v := nI 25) rfl (by decide) ?_
      refine V_ishl rfl ?_
      refine V_ior rfl ?_
      refine V_iload rfl (by first | rfl | assumption) ?_
      refine V_bipush (v := nI 18) rfl (by decide) ?_
      refine V_iushr rfl ?_
      refine V_iload rfl (by first | rfl | assumption) ?_
      refine V_bipush (v := nI 14) rfl (by decide) ?_
      refine V_ishl rfl ?_
      refine V_ior rfl ?_
      refine V_ixor rfl ?_
      refine V_iload rfl (by first | rfl | assumption) ?_
      refine V_iconst (v := nI 3) rfl (by decide) ?_
      refine V_iushr rfl ?_
      refine V_ixor rfl ?_
      refine V_istore rfl (by decide) ?_
      refine V_iload rfl (by first | rfl | assumption) ?_
      refine V_bipush (v := nI 17) rfl (by decide) ?_
      refine V_iushr rfl ?_
      refine V_iload rfl (by first | rfl | assumption) ?_
      refine V_bipush (v := nI 15) rfl (by decide) ?_
      refine V_ishl rfl ?_
      refine V_ior rfl ?_
      refine V_iload rfl (by first | rfl | assumption) ?_
      refine V_bipush (v := nI 19) rfl (by decide) ?_
      refine V_iushr rfl ?_
      refine V_iload rfl (by first | rfl | assumption) ?_
      refine V_bipush (v := nI 13) rfl (by decide) ?_
      refine V_ishl rfl ?_
      refine V_ior rfl ?_
      refine V_ixor rfl ?_
      refine V_iload rfl (by first | rfl | assumption) ?_
      refine V_bipush (v := nI 10) rfl (by decide) ?_
      refine V_iushr rfl ?_
      refine V_ixor rfl ?_
      refine V_istore rfl (by decide) ?_
      refine V_aload_n rfl (by first | rfl | assumption) ?_
      refine V_getf rfl rfl rfl (by repeat (first | exact hup_eq | assumption | refine Eq.trans (hup_ne (by first | assumption | exact Ne.symm (by assumption) | decide)) ?_)) (by first | rfl | assumption) ?_
      refine V_iload_n rfl (by first | rfl | assumption) ?_
      refine V_aload_n rfl (by first | rfl | assumption) ?_
      refine V_getf rfl rfl rfl (by repeat (first | exact hup_eq | assumption | refine Eq.trans (hup_ne (by first | assumption | exact Ne.symm (by assumption) | decide)) ?_)) (by first | rfl | assumption) ?_
      refine V_iload_n rfl (by first | rfl | assumption) ?_
      refine V_bipush (v := nI 16) rfl (by decide) ?_
      refine V_isubN rfl (by first | omega | decide) ?_
      refine V_ialdJ rfl (by repeat (first | exact hup_eq | assumption | refine Eq.trans (hup_ne (by first | assumption | exact Ne.symm (by assumption) | decide)) ?_)) rfl (by first | omega | decide) (by first | omega | decide) ?_
      refine V_iload rfl (by first | rfl | assumption) ?_
      refine V_iadd rfl ?_
      refine V_aload_n rfl (by first | rfl | assumption) ?_
      refine V_getf rfl rfl rfl (by repeat (first | exact hup_eq | assumption | refine Eq.trans (hup_ne (by first | assumption | exact Ne.symm (by assumption) | decide)) ?_)) (by first | rfl | assumption) ?_
      refine V_iload_n rfl (by first | rfl | assumption) ?_
      refine V_bipush (v := nI 7) rfl (by decide) ?_
      refine V_isubN rfl (by first | omega | decide) ?_
      refine V_ialdJ rfl (by repeat (first | exact hup_eq | assumption | refine Eq.trans (hup_ne (by first | assumption | exact Ne.symm (by assumption) | decide)) ?_)) rfl (by first | omega | decide) (by first | omega | decide) ?_
      refine V_iadd rfl ?_
      refine V_iload rfl (by first | rfl | assumption) ?_
      refine V_iadd rfl ?_
      refine V_iastJ rfl (by repeat (first | exact hup_eq | assumption | refine Eq.trans (hup_ne (by first | assumption | exact Ne.symm (by assumption) | decide)) ?_)) rfl (by first | omega | decide) (by first | omega | decide) ?_
      refine V_iincN (d := 1) rfl (by first | rfl | assumption) (by decide) (by decide) ?_
      refine V_goto rfl ?_
      rw [hup_hup]
      refine ih _ _ ⟨l0, rfl, _, fun j hj => ?_, rfl⟩
      show _ = upd (exw (bW b s) i) (16 + i) (exs (exw (bW b s) i) (16 + i)) j
      rw [← exs_congr (n := i) hw]
      by_cases e : j = 16 + i
      · subst e
        rw [pk_us, pk_us]; rfl
      · rw [pk_un e, pk_un e]
        exact hw j (by omega)
    · rintro lc G' ⟨l0, l3, w, hw, rfl⟩
      refine V_iload_n rfl (by first | rfl | assumption) ?_
      refine V_bipush (v := nI 64) rfl (by decide) ?_
      refine V_icmp_geN rfl (by decide) (by decide) (fun _ => ?_) (fun h => absurd (Nat.le_refl _) h)
      exact V_vret rfl rfl (hq w hw)
end CHash
