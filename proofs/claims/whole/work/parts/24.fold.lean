section CFold
variable {K : kK} {G : kG} {Q : kO → kG → Prop}
theorem LA_ne {G : kG} {a b N : Nat} {g : Nat → Nat} {ci : Nat} {fs : List Value} (h1 : G.1 a = some (.inr (ci, fs))) (h2 : G.1 b = some (LA N g)) : a ≠ b := by
  rintro rfl
  rw [h1] at h2
  cases h2
set_option maxHeartbeats 4000000 in
theorem c_fold {t wd r : Nat} {fs : List Value} {w z : Nat → Nat} (ht : G.1 t = some (.inr (0, fs))) (hf : fs[11]? = some (.ref wd)) (hw : G.1 wd = some (LA 20 w)) (hr : G.1 r = some (LA 10 z)) (hne : r ≠ wd) (hb : ∀ j, j < 20 → w j < 2 ^ 61)
    (hq : Q (.inl none) (hup (hup G wd (LA 20 (fo1 w 10).1)) r (LA 10 (foR w z)))) : C K 0 0 mX0_fold [.ref t, .ref r] G Q := by
  have htw := LA_ne ht hw
  have htr := LA_ne ht hr
  refine C_of okX0_fold (Nat.le_of_ble_eq_true rfl) ?_
  refine V_lconst (v := lN 0) rfl (by decide) ?_
  refine V_lstore_n rfl (by decide) ?_
  refine V_bipush (v := 10) rfl (by decide) ?_
  refine V_istore rfl (by decide) ?_
  refine V_loop 10 (fun i lc G' => lc 0 = some (.ref t) ∧ lc 1 = some (.ref r) ∧ lc 2 = some (.long (lN (fo1 w i).2)) ∧ lc 3 = some kmk ∧ lc 4 = some (.int (nI (10 + i))) ∧ G' = hup G wd (LA 20 (fo1 w i).1)) ?_ ?_ 0 _ _ (Nat.zero_le _) ⟨rfl, rfl, rfl, rfl, rfl, (hup_same hw).symm⟩
  · rintro i lc G' hi ⟨l0, l1, l2, l3, l4, rfl⟩ ih
    have hbd : (fo1 w i).1 (10 + i) + (fo1 w i).2 < 2 ^ 62 := by
      have q1 : (fo1 w i).1 (10 + i) = w (10 + i) := (fo1_spec w i).1 _ (by omega)
      have q2 := fo1_c (w := w) (i := i) (fun j hj => hb (10 + j) (by omega))
      have q3 := hb (10 + i) (by omega)
      omega
    refine V_iload rfl (by first | rfl | assumption) ?_
    refine V_bipush (v := 20) rfl (by decide) ?_
    refine V_icmp_ge rfl (fun h => absurd h (nI_ge (b := 20) (by omega) (by decide))) (fun _ => ?_)
    refine V_aload_n rfl (by first | rfl | assumption) ?_
    refine V_getf rfl rfl rfl (by repeat (first | exact hup_eq | assumption | refine Eq.trans (hup_ne (by first | assumption | exact Ne.symm (by assumption) | decide)) ?_)) (by first | rfl | assumption) ?_
    refine V_iload rfl (by first | rfl | assumption) ?_
    refine V_laldN rfl hup_eq rfl (by omega) (by decide) ?_
    refine V_lload_n rfl (by first | rfl | assumption) (by first | rfl | assumption) ?_
    refine V_laddN rfl ?_
    refine V_lstore rfl (by decide) ?_
    refine V_lload rfl (by first | rfl | assumption) (by first | rfl | assumption) ?_
    refine V_bipush (v := 26) rfl (by decide) ?_
    refine V_lshrN 26 rfl (by decide) hbd ?_
    refine V_lstore_n rfl (by decide) ?_
    refine V_aload_n rfl (by first | rfl | assumption) ?_
    refine V_getf rfl rfl rfl (by repeat (first | exact hup_eq | assumption | refine Eq.trans (hup_ne (by first | assumption | exact Ne.symm (by assumption) | decide)) ?_)) (by first | rfl | assumption) ?_
    refine V_iload rfl (by first | rfl | assumption) ?_
    refine V_lload rfl (by first | rfl | assumption) (by first | rfl | assumption) ?_
    refine V_ldc2 (v := lN 67108863) rfl kc_X0_117 ?_
    refine V_landN 26 rfl (by decide) (by decide) (by omega) ?_
    refine V_lastN rfl hup_eq rfl (by omega) (by decide) ?_
    rw [hup_hup]
    refine V_iinc rfl (by first | rfl | assumption) rfl (by decide) ?_
    refine V_goto rfl ?_
    exact ih _ _ ⟨l0, l1, rfl, rfl, congrArg (fun z => some (Value.int z)) (nI_1 (10 + i)), rfl⟩
  rintro lc G' ⟨l0, l1, l2, l3, l4, rfl⟩
  obtain ⟨w1, hw1⟩ : ∃ w1, w1 = (fo1 w 10).1 := ⟨_, rfl⟩
  have hlo : ∀ j, j < 10 → w1 j < 2 ^ 61 := fun j hj => by rw [hw1, (fo1_spec w 10).1 j (by omega)]; exact hb j (by omega)
  have hhi : ∀ j, j < 10 → w1 (j + 10) < 2 ^ 26 := fun j hj => by rw [hw1, Nat.add_comm]; exact (fo1_spec w 10).2.1 j hj
  rw [← hw1] at hq
  rw [← hw1]
  refine V_iload rfl (by first | rfl | assumption) ?_
  refine V_bipush (v := 20) rfl (by decide) ?_
  refine V_icmp_ge rfl (fun _ => ?_) (fun h => absurd (nI_le (Nat.le_refl 20) (by decide)) h)
  refine V_lconst (v := lN 0) rfl (by decide) ?_
  refine V_lstore_n rfl (by decide) ?_
  refine V_iconst (v := 0) rfl (by decide) ?_
  refine V_istore rfl (by decide) ?_
  refine V_loop 9 (fun i lc G' => lc 0 = some (.ref t) ∧ lc 1 = some (.ref r) ∧ lc 2 = some (.long (lN (fo2 w1 z i).2)) ∧ lc 3 = some kmk ∧ lc 4 = some (.int (nI i)) ∧ G' = hup (hup G wd (LA 20 w1)) r (LA 10 (fo2 w1 z i).1)) ?_ ?_ 0 _ _ (Nat.zero_le _) ⟨l0, l1, rfl, rfl, rfl, (hup_same (by rw [hup_ne hne]; exact hr)).symm⟩
  · clear l0 l1 l2 l3 l4 lc
    rintro i lc G' hi ⟨l0, l1, l2, l3, l4, rfl⟩ ih
    have hbd : w1 i + 608 * w1 (i + 10) + (fo2 w1 z i).2 < 2 ^ 62 := by
      have q2 := fo2_c (w := w1) (r := z) (i := i) (fun j hj => hlo j (by omega)) (fun j hj => hhi j (by omega))
      have q3 := hlo i (by omega)
      have q4 := hhi i (by omega)
      omega
    refine V_iload rfl (by first | rfl | assumption) ?_
    refine V_bipush (v := 9) rfl (by decide) ?_
    refine V_icmp_ge rfl (fun h => absurd h (nI_ge (b := 9) hi (by decide))) (fun _ => ?_)
    refine V_aload_n rfl (by first | rfl | assumption) ?_
    refine V_getf rfl rfl rfl (by repeat (first | exact hup_eq | assumption | refine Eq.trans (hup_ne (by first | assumption | exact Ne.symm (by assumption) | decide)) ?_)) (by first | rfl | assumption) ?_
    refine V_iload rfl (by first | rfl | assumption) ?_
    refine V_laldN rfl ((hup_ne (Ne.symm hne)).trans hup_eq) rfl (by omega) (by decide) ?_
    refine V_ldc2 (v := lN 608) rfl kc_X0_119 ?_
    refine V_aload_n rfl (by first | rfl | assumption) ?_
    refine V_getf rfl rfl rfl (by repeat (first | exact hup_eq | assumption | refine Eq.trans (hup_ne (by first | assumption | exact Ne.symm (by assumption) | decide)) ?_)) (by first | rfl | assumption) ?_
    refine V_iload rfl (by first | rfl | assumption) ?_
    refine V_bipush (v := 10) rfl (by decide) ?_
    refine V_iadd rfl ?_
    refine V_laldN rfl ((hup_ne (Ne.symm hne)).trans hup_eq) (nI_add i 10) (by omega) (by decide) ?_
    refine V_lmulN rfl ?_
    refine V_laddN rfl ?_
    refine V_lload_n rfl (by first | rfl | assumption) (by first | rfl | assumption) ?_
    refine V_laddN rfl ?_
    refine V_lstore rfl (by decide) ?_
    refine V_lload rfl (by first | rfl | assumption) (by first | rfl | assumption) ?_
    refine V_bipush (v := 26) rfl (by decide) ?_
    refine V_lshrN 26 rfl (by decide) hbd ?_
    refine V_lstore_n rfl (by decide) ?_
    refine V_aload_n rfl (by first | rfl | assumption) ?_
    refine V_iload rfl (by first | rfl | assumption) ?_
    refine V_lload rfl (by first | rfl | assumption) (by first | rfl | assumption) ?_
    refine V_ldc2 (v := lN 67108863) rfl kc_X0_117 ?_
    refine V_landN 26 rfl (by decide) (by decide) (by omega) ?_
    refine V_lastN rfl hup_eq rfl (by omega) (by decide) ?_
    rw [hup_hup]
    refine V_iinc rfl (by first | rfl | assumption) rfl (by decide) ?_
    refine V_goto rfl ?_
    exact ih _ _ ⟨l0, l1, rfl, rfl, congrArg (fun z => some (Value.int z)) (nI_1 i), rfl⟩
  clear l0 l1 l2 l3 l4 lc
  rintro lc G' ⟨l0, l1, l2, l3, l4, rfl⟩
  have hT : foT w z = w1 9 + 608 * w1 19 + (fo2 w1 z 9).2 := by unfold foT; rw [hw1]
  have hTb : foT w z < 2 ^ 62 := by
    rw [hT]
    have q2 := fo2_c (w := w1) (r := z) (i := 9) (fun j hj => hlo j (by omega)) (fun j hj => hhi j (by omega))
    have q3 := hlo 9 (by omega)
    have q4 : w1 19 < 2 ^ 26 := hhi 9 (by omega)
    omega
  have hz0 : (fo2 w1 z 9).1 0 < 2 ^ 26 := (fo2_spec w1 z 9).2.1 0 (by omega)
  have hL : foL w z = updN (fo2 w1 z 9).1 9 (foT w z % 2 ^ 21) 0 + 19 * (foT w z / 2 ^ 21) := by unfold foL; rw [hw1]
  have hLb : foL w z < 2 ^ 62 := by
    rw [hL, updN_ne (by decide)]
    omega
  have hR : foR w z = updN (updN (updN (fo2 w1 z 9).1 9 (foT w z % 2 ^ 21)) 0 (foL w z % 2 ^ 26)) 1 (updN (updN (fo2 w1 z 9).1 9 (foT w z % 2 ^ 21)) 0 (foL w z % 2 ^ 26) 1 + foL w z / 2 ^ 26) := by unfold foR; rw [hw1]
  refine V_iload rfl (by first | rfl | assumption) ?_
  refine V_bipush (v := 9) rfl (by decide) ?_
  refine V_icmp_ge rfl (fun _ => ?_) (fun h => absurd (nI_le (Nat.le_refl 9) (by decide)) h)
  refine V_aload_n rfl (by first | rfl | assumption) ?_
  refine V_getf rfl rfl rfl (by repeat (first | exact hup_eq | assumption | refine Eq.trans (hup_ne (by first | assumption | exact Ne.symm (by assumption) | decide)) ?_)) (by first | rfl | assumption) ?_
  refine V_bipush (v := 9) rfl (by decide) ?_
  refine V_laldN (j := 9) rfl ((hup_ne (Ne.symm hne)).trans hup_eq) rfl (by omega) (by decide) ?_
  refine V_ldc2 (v := lN 608) rfl kc_X0_119 ?_
  refine V_aload_n rfl (by first | rfl | assumption) ?_
  refine V_getf rfl rfl rfl (by repeat (first | exact hup_eq | assumption | refine Eq.trans (hup_ne (by first | assumption | exact Ne.symm (by assumption) | decide)) ?_)) (by first | rfl | assumption) ?_
  refine V_bipush (v := 19) rfl (by decide) ?_
  refine V_laldN (j := 19) rfl ((hup_ne (Ne.symm hne)).trans hup_eq) rfl (by omega) (by decide) ?_
  refine V_lmulN rfl ?_
  refine V_laddN rfl ?_
  refine V_lload_n rfl (by first | rfl | assumption) (by first | rfl | assumption) ?_
  refine V_laddN rfl ?_
  rw [← hT]
  refine V_lstore rfl (by decide) ?_
  refine V_aload_n rfl (by first | rfl | assumption) ?_
  refine V_bipush (v := 9) rfl (by decide) ?_
  refine V_lload rfl (by first | rfl | assumption) (by first | rfl | assumption) ?_
  refine V_ldc2 (v := lN 2097151) rfl kc_X0_61 ?_
  refine V_landN 21 rfl (by decide) (by decide) (by omega) ?_
  refine V_lastN (j := 9) rfl hup_eq rfl (by omega) (by decide) ?_
  rw [hup_hup]
  refine V_aload_n rfl (by first | rfl | assumption) ?_
  refine V_iconst (v := 0) rfl (by decide) ?_
  refine V_laldN (j := 0) rfl hup_eq rfl (by omega) (by decide) ?_
  refine V_ldc2 (v := lN 19) rfl kc_X0_121 ?_
  refine V_lload rfl (by first | rfl | assumption) (by first | rfl | assumption) ?_
  refine V_bipush (v := 21) rfl (by decide) ?_
  refine V_lshrN 21 rfl (by decide) hTb ?_
  refine V_lmulN rfl ?_
  refine V_laddN rfl ?_
  rw [← hL]
  refine V_lstore rfl (by decide) ?_
  refine V_aload_n rfl (by first | rfl | assumption) ?_
  refine V_iconst (v := 0) rfl (by decide) ?_
  refine V_lload rfl (by first | rfl | assumption) (by first | rfl | assumption) ?_
  refine V_ldc2 (v := lN 67108863) rfl kc_X0_117 ?_
  refine V_landN 26 rfl (by decide) (by decide) (by omega) ?_
  refine V_lastN (j := 0) rfl hup_eq rfl (by omega) (by decide) ?_
  rw [hup_hup]
  refine V_aload_n rfl (by first | rfl | assumption) ?_
  refine V_iconst (v := 1) rfl (by decide) ?_
  refine V_dup2 rfl rfl rfl ?_
  refine V_laldN (j := 1) rfl hup_eq rfl (by omega) (by decide) ?_
  refine V_lload rfl (by first | rfl | assumption) (by first | rfl | assumption) ?_
  refine V_bipush (v := 26) rfl (by decide) ?_
  refine V_lshrN 26 rfl (by decide) hLb ?_
  refine V_laddN rfl ?_
  refine V_lastN (j := 1) rfl hup_eq rfl (by omega) (by decide) ?_
  rw [hup_hup, ← hR]
  exact V_vret rfl rfl hq
end CFold
