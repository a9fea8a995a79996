section CCurve3
variable {K : kK} {G : kG} {Q : kO → kG → Prop}
set_option maxHeartbeats 4000000 in
theorem c_settle {r : Nat} {z : Nat → Nat} (hr : G.1 r = some (LA 10 z)) (hz : fA z) (hq : Q (.inl none) (hup G r (LA 10 (seR z)))) : C K 0 0 mX0_settle [.ref r] G Q := by
  obtain ⟨hk, -, -, -⟩ := seR_ok hz
  have h27 : ∀ j, j < 9 → z j < 2 ^ 27 := fun j hj => by have := hz.1 j hj; omega
  refine C_of okX0_settle (Nat.le_of_ble_eq_true rfl) ?_
  refine V_ldc2 (v := lN 19) rfl kc_X0_121 ?_
  refine V_lstore_n rfl (by decide) ?_
  refine V_iconst (v := 0) rfl (by decide) ?_
  refine V_istore_n rfl (by decide) ?_
  refine V_loop 9 (fun i lc G' => lc 0 = some (.ref r) ∧ lc 1 = some (.long (lN (se1 z i))) ∧ lc 2 = some kmk ∧ lc 3 = some (.int (nI i)) ∧ G' = G) ?_ ?_ 0 _ _ (Nat.zero_le _) ⟨rfl, rfl, rfl, rfl, rfl⟩
  · rintro i lc G' hi ⟨l0, l1, l2, l3, rfl⟩ ih
    have hb : z i + se1 z i < 2 ^ 62 := by
      have q1 := se1_lt (r := z) i (fun j hj => h27 j (by omega))
      have q2 := h27 i hi
      omega
    refine V_iload_n rfl (by first | rfl | assumption) ?_
    refine V_bipush (v := 9) rfl (by decide) ?_
    refine V_icmp_ge rfl (fun h => absurd h (nI_ge (b := 9) hi (by decide))) (fun _ => ?_)
    refine V_aload_n rfl (by first | rfl | assumption) ?_
    refine V_iload_n rfl (by first | rfl | assumption) ?_
    refine V_laldN rfl hr rfl (by omega) (by decide) ?_
    refine V_lload_n rfl (by first | rfl | assumption) (by first | rfl | assumption) ?_
    refine V_laddN rfl ?_
    refine V_bipush (v := 26) rfl (by decide) ?_
    refine V_lshrN 26 rfl (by decide) hb ?_
    refine V_lstore_n rfl (by decide) ?_
    refine V_iinc rfl (by first | rfl | assumption) rfl (by decide) ?_
    refine V_goto rfl ?_
    exact ih _ _ ⟨l0, rfl, rfl, congrArg (fun z => some (Value.int z)) (nI_1 i), rfl⟩
  rintro lc G' ⟨l0, l1, l2, l3, rfl⟩
  have hb9 : z 9 + se1 z 9 < 2 ^ 62 := by
    have q1 := se1_lt (r := z) 9 h27
    have q2 := hz.2
    omega
  refine V_iload_n rfl (by first | rfl | assumption) ?_
  refine V_bipush (v := 9) rfl (by decide) ?_
  refine V_icmp_ge rfl (fun _ => ?_) (fun h => absurd (nI_le (Nat.le_refl 9) (by decide)) h)
  refine V_ldc2 (v := lN 19) rfl kc_X0_121 ?_
  refine V_aload_n rfl (by first | rfl | assumption) ?_
  refine V_bipush (v := 9) rfl (by decide) ?_
  refine V_laldN (j := 9) rfl hr rfl (by omega) (by decide) ?_
  refine V_lload_n rfl (by first | rfl | assumption) (by first | rfl | assumption) ?_
  refine V_laddN rfl ?_
  refine V_bipush (v := 21) rfl (by decide) ?_
  refine V_lshrN 21 rfl (by decide) hb9 ?_
  refine V_lmulN rfl ?_
  refine V_lstore_n rfl (by decide) ?_
  refine V_iconst (v := 0) rfl (by decide) ?_
  refine V_istore_n rfl (by decide) ?_
  refine V_loop 9 (fun i lc G'' => lc 0 = some (.ref r) ∧ lc 1 = some (.long (lN (se2 z i).2)) ∧ lc 2 = some kmk ∧ lc 3 = some (.int (nI i)) ∧ G'' = hup G' r (LA 10 (se2 z i).1)) ?_ ?_ 0 _ _ (Nat.zero_le _) ⟨l0, rfl, rfl, rfl, (hup_same hr).symm⟩
  · clear l0 l1 l2 l3 lc
    rintro i lc G'' hi ⟨l0, l1, l2, l3, rfl⟩ ih
    have hb : (se2 z i).1 i + (se2 z i).2 < 2 ^ 62 := by
      have q1 := se2_c hk i (fun j hj => h27 j (by omega))
      have q2 := h27 i hi
      rw [(se2_spec z i).1 i (by omega)]
      omega
    refine V_iload_n rfl (by first | rfl | assumption) ?_
    refine V_bipush (v := 9) rfl (by decide) ?_
    refine V_icmp_ge rfl (fun h => absurd h (nI_ge (b := 9) hi (by decide))) (fun _ => ?_)
    refine V_aload_n rfl (by first | rfl | assumption) ?_
    refine V_iload_n rfl (by first | rfl | assumption) ?_
    refine V_laldN rfl hup_eq rfl (by omega) (by decide) ?_
    refine V_lload_n rfl (by first | rfl | assumption) (by first | rfl | assumption) ?_
    refine V_laddN rfl ?_
    refine V_lstore rfl (by decide) ?_
    refine V_aload_n rfl (by first | rfl | assumption) ?_
    refine V_iload_n rfl (by first | rfl | assumption) ?_
    refine V_lload rfl (by first | rfl | assumption) (by first | rfl | assumption) ?_
    refine V_ldc2 (v := lN 67108863) rfl kc_X0_117 ?_
    refine V_landN 26 rfl (by decide) (by decide) (by omega) ?_
    refine V_lastN rfl hup_eq rfl (by omega) (by decide) ?_
    rw [hup_hup]
    refine V_lload rfl (by first | rfl | assumption) (by first | rfl | assumption) ?_
    refine V_bipush (v := 26) rfl (by decide) ?_
    refine V_lshrN 26 rfl (by decide) hb ?_
    refine V_lstore_n rfl (by decide) ?_
    refine V_iinc rfl (by first | rfl | assumption) rfl (by decide) ?_
    refine V_goto rfl ?_
    exact ih _ _ ⟨l0, rfl, rfl, congrArg (fun z => some (Value.int z)) (nI_1 i), rfl⟩
  clear l0 l1 l2 l3 lc
  rintro lc G'' ⟨l0, l1, l2, l3, rfl⟩
  have hb : (se2 z 9).1 9 + (se2 z 9).2 < 2 ^ 62 := by
    have q1 := se2_c hk 9 h27
    have q2 := hz.2
    rw [(se2_spec z 9).1 9 (by omega)]
    omega
  refine V_iload_n rfl (by first | rfl | assumption) ?_
  refine V_bipush (v := 9) rfl (by decide) ?_
  refine V_icmp_ge rfl (fun _ => ?_) (fun h => absurd (nI_le (Nat.le_refl 9) (by decide)) h)
  refine V_aload_n rfl (by first | rfl | assumption) ?_
  refine V_bipush (v := 9) rfl (by decide) ?_
  refine V_aload_n rfl (by first | rfl | assumption) ?_
  refine V_bipush (v := 9) rfl (by decide) ?_
  refine V_laldN (j := 9) rfl hup_eq rfl (by omega) (by decide) ?_
  refine V_lload_n rfl (by first | rfl | assumption) (by first | rfl | assumption) ?_
  refine V_laddN rfl ?_
  refine V_ldc2 (v := lN 2097151) rfl kc_X0_61 ?_
  refine V_landN 21 rfl (by decide) (by decide) (by omega) ?_
  refine V_lastN (j := 9) rfl hup_eq rfl (by omega) (by decide) ?_
  rw [hup_hup]
  exact V_vret rfl rfl hq
/-! z^(P - 2), by the bits of P - 2 -/
def mulP (a b : Nat) : Nat := a * b % PP
/-- the power after n turns from the top bit 254 on -/
def ivP (z : Nat) : Nat → Nat
  | 0 => z % PP
  | n + 1 => if 253 - n = 2 ∨ 253 - n = 4 then mulP (ivP z n) (ivP z n) else mulP (mulP (ivP z n) (ivP z n)) z
theorem ivP_lt (z : Nat) : ∀ n, ivP z n < PP
  | 0 => Nat.mod_lt _ (by decide)
  | n + 1 => by
    unfold ivP
    split <;> exact Nat.mod_lt _ (by decide)
theorem mulP_mod {a b x y : Nat} (h : x % PP = (a * b) % PP) (ha : a % PP = y) : True := trivial
theorem mulP_of {x a b A B : Nat} (h : x % PP = (a * b) % PP) (ha : a % PP = A) (hb : b % PP = B) : x % PP = mulP A B := by
  rw [h, Nat.mul_mod, ha, hb]
  rfl
theorem nI_down {k : Nat} (h : k < 300) : nI k + Int32.ofInt (-1) = nI (k - 1) ∨ k = 0 := by
  by_cases hk : k = 0
  · exact Or.inr hk
  · left
    obtain ⟨j, rfl⟩ : ∃ j, k = j + 1 := ⟨k - 1, by omega⟩
    exact pk_m1 j
end CCurve3
