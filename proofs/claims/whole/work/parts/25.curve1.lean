section CCurve1
variable {K : kK} {G : kG} {Q : kO → kG → Prop}
/-- a row that may be the written one, read at a place that is not written yet -/
theorem rdA {p r N i : Nat} {x z zi : Nat → Nat} (hp : G.1 p = some (LA N x)) (hr : G.1 r = some (LA N z)) (hz : zi i = z i) : ∃ x', (hup G r (LA N zi)).1 p = some (LA N x') ∧ lN (x' i) = lN (x i) := by
  by_cases h : p = r
  · subst h
    refine ⟨zi, hup_eq, ?_⟩
    rw [hr] at hp
    have h1 := Option.some.inj hp
    simp only [Sum.inl.injEq, Prod.mk.injEq, true_and, Sum.inr.injEq] at h1
    rw [hz]
    exact congrFun h1 i
  · exact ⟨x, (hup_ne h).trans hp, rfl⟩
theorem c_setSmall {r v : Nat} {z : Nat → Nat} (hr : G.1 r = some (LA 10 z)) (hq : ∀ z', (∀ j, j < 10 → z' j = if j = 0 then v else 0) → Q (.inl none) (hup G r (LA 10 z'))) : C K 0 0 mX0_setSmall [.ref r, .long (lN v)] G Q := by
  refine C_of okX0_setSmall (Nat.le_of_ble_eq_true rfl) ?_
  refine V_aload_n rfl (by first | rfl | assumption) ?_
  refine V_lconst (v := lN 0) rfl (by decide) ?_
  refine V_callS (M' := mJ7_fill_d0a16) (mc := 0) (ms := 0) (bc' := 0) (bs' := 0) rfl cw_X0_87 is_J7_fill_d0a16 rfl (Nat.le_of_ble_eq_true rfl) ⟨Nat.le_of_ble_eq_true rfl, Nat.le_of_ble_eq_true rfl⟩ ⟨Nat.le_of_ble_eq_true rfl, Nat.le_of_ble_eq_true rfl⟩ (As := [.ref r, .long (lN 0)]) (c_fillL (v := 0) (Q := fun o G' => o = .inl none ∧ G' = hup G r (LA 10 (fun j => if j < 10 then 0 else z j))) hr (by decide) ⟨rfl, rfl⟩) (fun o G' h => ?_) (fun E G' h => by cases h.1)
  obtain ⟨h, rfl⟩ := h
  cases h
  refine V_aload_n rfl (by first | rfl | assumption) ?_
  refine V_iconst (v := 0) rfl (by decide) ?_
  refine V_lload_n rfl (by first | rfl | assumption) (by first | rfl | assumption) ?_
  refine V_lastN (j := 0) rfl hup_eq rfl (by omega) (by decide) ?_
  rw [hup_hup]
  refine V_vret rfl rfl (hq _ (fun j hj => ?_))
  simp only [updN, hj, if_true]
set_option maxHeartbeats 4000000 in
theorem c_sum {r p q : Nat} {x y z : Nat → Nat} (hr : G.1 r = some (LA 10 z)) (hp : G.1 p = some (LA 10 x)) (hqq : G.1 q = some (LA 10 y)) (hq : Q (.inl none) (hup G r (LA 10 (fun j => if j < 10 then x j + y j else z j)))) : C K 0 0 mX0_sum [.ref r, .ref p, .ref q] G Q := by
  refine C_of okX0_sum (Nat.le_of_ble_eq_true rfl) ?_
  refine V_iconst (v := 0) rfl (by decide) ?_
  refine V_istore_n rfl (by decide) ?_
  refine V_loop 10 (fun i lc G' => lc 0 = some (.ref r) ∧ lc 1 = some (.ref p) ∧ lc 2 = some (.ref q) ∧ lc 3 = some (.int (nI i)) ∧ G' = hup G r (LA 10 (fun j => if j < i then x j + y j else z j))) ?_ ?_ 0 _ _ (Nat.zero_le _) ⟨rfl, rfl, rfl, rfl, (hup_same (by simpa using hr)).symm⟩
  · rintro i lc G' hi ⟨l0, l1, l2, l3, rfl⟩ ih
    obtain ⟨x', hx1, hx2⟩ := rdA (i := i) (zi := fun j => if j < i then x j + y j else z j) hp hr (by simp)
    obtain ⟨y', hy1, hy2⟩ := rdA (i := i) (zi := fun j => if j < i then x j + y j else z j) hqq hr (by simp)
    refine V_iload_n rfl (by first | rfl | assumption) ?_
    refine V_bipush (v := 10) rfl (by decide) ?_
    refine V_icmp_ge rfl (fun h => absurd h (nI_ge (b := 10) hi (by decide))) (fun _ => ?_)
    refine V_aload_n rfl (by first | rfl | assumption) ?_
    refine V_iload_n rfl (by first | rfl | assumption) ?_
    refine V_aload_n rfl (by first | rfl | assumption) ?_
    refine V_iload_n rfl (by first | rfl | assumption) ?_
    refine V_laldN rfl hx1 rfl hi (by decide) ?_
    rw [hx2]
    refine V_aload_n rfl (by first | rfl | assumption) ?_
    refine V_iload_n rfl (by first | rfl | assumption) ?_
    refine V_laldN rfl hy1 rfl hi (by decide) ?_
    rw [hy2]
    refine V_laddN rfl ?_
    refine V_lastN rfl hup_eq rfl hi (by decide) ?_
    rw [hup_hup]
    refine V_iinc rfl (by first | rfl | assumption) rfl (by decide) ?_
    refine V_goto rfl ?_
    refine ih _ _ ⟨l0, l1, l2, congrArg (fun z => some (Value.int z)) (nI_1 i), ?_⟩
    congr 2
    funext j
    simp only [updN]
    by_cases h1 : j = i
    · subst h1; simp
    · by_cases h2 : j < i
      · simp [h1, h2, show j < i + 1 by omega]
      · simp [h1, h2, show ¬ j < i + 1 by omega]
  · rintro lc G' ⟨l0, l1, l2, l3, rfl⟩
    refine V_iload_n rfl (by first | rfl | assumption) ?_
    refine V_bipush (v := 10) rfl (by decide) ?_
    refine V_icmp_ge rfl (fun _ => ?_) (fun h => absurd (nI_le (Nat.le_refl 10) (by decide)) h)
    exact V_vret rfl rfl hq
theorem lN_dif {x y c : Nat} (h : y ≤ x + c) : lN x - lN y + lN c = lN (x + c - y) := by
  have h1 : lN (x + c) - lN y = lN (x + c - y) := lN_sub h
  rw [← h1, ← lN_add]
  rw [Int64.sub_eq_add_neg, Int64.sub_eq_add_neg, Int64.add_assoc, Int64.add_comm (-lN y), ← Int64.add_assoc]
/-- the limbs of twice P -/
def tP (j : Nat) : Nat := if j = 0 then 134217690 else if j < 9 then 134217726 else 4194302
set_option maxHeartbeats 4000000 in
theorem c_difference {r p q : Nat} {x y z : Nat → Nat} (hr : G.1 r = some (LA 10 z)) (hp : G.1 p = some (LA 10 x)) (hqq : G.1 q = some (LA 10 y)) (hy : ∀ j, j < 10 → y j ≤ x j + tP j) (hq : Q (.inl none) (hup G r (LA 10 (fun j => if j < 10 then x j + tP j - y j else z j)))) : C K 0 0 mX0_difference [.ref r, .ref p, .ref q] G Q := by
  refine C_of okX0_difference (Nat.le_of_ble_eq_true rfl) ?_
  refine V_aload_n rfl (by first | rfl | assumption) ?_
  refine V_iconst (v := 0) rfl (by decide) ?_
  refine V_aload_n rfl (by first | rfl | assumption) ?_
  refine V_iconst (v := 0) rfl (by decide) ?_
  refine V_laldN (j := 0) rfl hp rfl (by decide) (by decide) ?_
  refine V_aload_n rfl (by first | rfl | assumption) ?_
  refine V_iconst (v := 0) rfl (by decide) ?_
  refine V_laldN (j := 0) rfl hqq rfl (by decide) (by decide) ?_
  refine V_lsub rfl ?_
  refine V_ldc2 (v := lN 134217690) rfl kc_X0_104 ?_
  refine V_ladd rfl ?_
  rw [lN_dif (c := 134217690) (hy 0 (by decide))]
  refine V_lastN (j := 0) rfl hr rfl (by decide) (by decide) ?_
  refine V_iconst (v := 1) rfl (by decide) ?_
  refine V_istore_n rfl (by decide) ?_
  refine V_loop 8 (fun i lc G' => lc 0 = some (.ref r) ∧ lc 1 = some (.ref p) ∧ lc 2 = some (.ref q) ∧ lc 3 = some (.int (nI (1 + i))) ∧ G' = hup G r (LA 10 (fun j => if j < 1 + i then x j + tP j - y j else z j))) ?_ ?_ 0 _ _ (Nat.zero_le _) ⟨rfl, rfl, rfl, rfl, ?_⟩
  · rintro i lc G' hi ⟨l0, l1, l2, l3, rfl⟩ ih
    obtain ⟨x', hx1, hx2⟩ := rdA (i := 1 + i) (zi := fun j => if j < 1 + i then x j + tP j - y j else z j) hp hr (by simp)
    obtain ⟨y', hy1, hy2⟩ := rdA (i := 1 + i) (zi := fun j => if j < 1 + i then x j + tP j - y j else z j) hqq hr (by simp)
    refine V_iload_n rfl (by first | rfl | assumption) ?_
    refine V_bipush (v := 9) rfl (by decide) ?_
    refine V_icmp_ge rfl (fun h => absurd h (nI_ge (b := 9) (by omega) (by decide))) (fun _ => ?_)
    refine V_aload_n rfl (by first | rfl | assumption) ?_
    refine V_iload_n rfl (by first | rfl | assumption) ?_
    refine V_aload_n rfl (by first | rfl | assumption) ?_
    refine V_iload_n rfl (by first | rfl | assumption) ?_
    refine V_laldN rfl hx1 rfl (by omega) (by decide) ?_
    rw [hx2]
    refine V_aload_n rfl (by first | rfl | assumption) ?_
    refine V_iload_n rfl (by first | rfl | assumption) ?_
    refine V_laldN rfl hy1 rfl (by omega) (by decide) ?_
    rw [hy2]
    refine V_lsub rfl ?_
    refine V_ldc2 (v := lN 134217726) rfl kc_X0_106 ?_
    refine V_ladd rfl ?_
    have ht : tP (1 + i) = 134217726 := by unfold tP; rw [if_neg (by omega), if_pos (by omega)]
    rw [lN_dif (by have := hy (1 + i) (by omega); rw [ht] at this; exact this)]
    refine V_lastN rfl hup_eq rfl (by omega) (by decide) ?_
    rw [hup_hup]
    refine V_iinc rfl (by first | rfl | assumption) rfl (by decide) ?_
    refine V_goto rfl ?_
    refine ih _ _ ⟨l0, l1, l2, congrArg (fun z => some (Value.int z)) (nI_1 (1 + i)), ?_⟩
    congr 2
    funext j
    simp only [updN]
    by_cases h1 : j = 1 + i
    · subst h1; simp [ht]
    · by_cases h2 : j < 1 + i
      · simp [h1, h2, show j < 1 + (i + 1) by omega]
      · simp [h1, h2, show ¬ j < 1 + (i + 1) by omega]
  · rintro lc G' ⟨l0, l1, l2, l3, rfl⟩
    obtain ⟨x', hx1, hx2⟩ := rdA (i := 9) (zi := fun j => if j < 1 + 8 then x j + tP j - y j else z j) hp hr (by simp)
    obtain ⟨y', hy1, hy2⟩ := rdA (i := 9) (zi := fun j => if j < 1 + 8 then x j + tP j - y j else z j) hqq hr (by simp)
    refine V_iload_n rfl (by first | rfl | assumption) ?_
    refine V_bipush (v := 9) rfl (by decide) ?_
    refine V_icmp_ge rfl (fun _ => ?_) (fun h => absurd (nI_le (Nat.le_refl 9) (by decide)) h)
    refine V_aload_n rfl (by first | rfl | assumption) ?_
    refine V_bipush (v := 9) rfl (by decide) ?_
    refine V_aload_n rfl (by first | rfl | assumption) ?_
    refine V_bipush (v := 9) rfl (by decide) ?_
    refine V_laldN (j := 9) rfl hx1 rfl (by omega) (by decide) ?_
    rw [hx2]
    refine V_aload_n rfl (by first | rfl | assumption) ?_
    refine V_bipush (v := 9) rfl (by decide) ?_
    refine V_laldN (j := 9) rfl hy1 rfl (by omega) (by decide) ?_
    rw [hy2]
    refine V_lsub rfl ?_
    refine V_ldc2 (v := lN 4194302) rfl kc_X0_108 ?_
    refine V_ladd rfl ?_
    rw [lN_dif (c := 4194302) (hy 9 (by decide))]
    refine V_lastN (j := 9) rfl hup_eq rfl (by omega) (by decide) ?_
    rw [hup_hup]
    refine V_vret rfl rfl ?_
    rw [show updN (fun j => if j < 1 + 8 then x j + tP j - y j else z j) 9 (x 9 + 4194302 - y 9) = fun j => if j < 10 then x j + tP j - y j else z j from ?_]
    · exact hq
    · funext j
      simp only [updN]
      by_cases h1 : j = 9
      · subst h1; simp [tP]
      · by_cases h2 : j < 9
        · simp [h1, h2, show j < 10 by omega]
        · simp [h1, h2, show ¬ j < 10 by omega]
  · congr 2
    funext j
    simp only [updN]
    by_cases h1 : j = 0
    · subst h1; simp [tP]
    · simp [h1]
end CCurve1
