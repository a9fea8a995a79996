/-! isRoot: the power -/
section MRoot2
variable {K : kK} {G : kG} {Q : kO → kG → Prop} {th ta os hs ps rs : Int32}
set_option maxHeartbeats 8000000 in
theorem V_rt2 {c n p : Nat} {lc : kLo} (hc : c < 2 ^ 37) (hp : p = 2 ∨ p = 3) (hn : n < 2 ^ 20) (l0 : lc 0 = some (.ref 140)) (l3 : lc 3 = some (.int (nI n))) (l4 : lc 4 = some (.int (nI p))) (l5 : lc 5 = some (.int (nI 0))) (g140 : G.1 140 = some (MO th ta os hs ps rs)) (g182 : ∃ f, G.1 182 = some (LA 12 f) ∧ ∀ j, j < 12 → f j = dg 1 j) (g183 : ∃ g, G.1 183 = some (LA 3 g) ∧ ∀ j, j < 3 → g j = dg c j) (hq : ∀ G', FP PR G G' → (∃ f, G'.1 182 = some (LA 12 f)) → (∃ g, G'.1 183 = some (LA 3 g)) → Q (.inl (some (.int (bI (rtQ c n p))))) G') : V K 0 0 mX12_isRoot 69 lc [] G Q := by
  have hpw : ∀ t, t ≤ 3 → c ^ t < 2 ^ 111 + 1 := fun t ht => by
    have h1 : c ^ t ≤ (2 ^ 37) ^ t := Nat.pow_le_pow_left (by omega) t
    have h2 : (2 ^ 37) ^ t ≤ (2 ^ 37) ^ 3 := Nat.pow_le_pow_right (by decide) ht
    have h3 : ((2 : Nat) ^ 37) ^ 3 = 2 ^ 111 := by decide
    omega
  refine V_loop p (fun t lc G' => lc 0 = some (.ref 140) ∧ lc 3 = some (.int (nI n)) ∧ lc 4 = some (.int (nI p)) ∧ lc 5 = some (.int (nI t)) ∧ FP PR G G' ∧ (∃ f, G'.1 182 = some (LA 12 f) ∧ ∀ j, j < 12 → f j = dg (c ^ t) j) ∧ (∃ g, G'.1 183 = some (LA 3 g) ∧ ∀ j, j < 3 → g j = dg c j)) ?_ ?_ 0 _ _ (Nat.zero_le _) ⟨l0, l3, l4, l5, FP.rf, g182, g183⟩
  · clear l0 l3 l4 l5 g182 g183 lc hq
    rintro t lc G1 ht ⟨l0, l3, l4, l5, F1, ⟨f, g182, hf⟩, ⟨g, g183, hg⟩⟩ ih
    have k140 := F1.get (by decide) g140
    have hW := hpw (t + 1) (by omega)
    have hV := hpw t (by omega)
    rw [Nat.pow_succ, Nat.mul_comm] at hW
    have hs1 : c ^ (t + 1) = c * c ^ t := by rw [Nat.pow_succ, Nat.mul_comm]
    rw [hs1] at ih
    clear hs1
    obtain ⟨V0, hV0⟩ : ∃ V0, V0 = c ^ t := ⟨_, rfl⟩
    rw [← hV0] at hf hW hV ih
    clear hV0
    have hx := m3_vs (c := c) (V := V0) (by omega) (by omega)
    obtain ⟨W, hWe⟩ : ∃ W, W = c * V0 := ⟨_, rfl⟩
    rw [← hWe] at hx hW ih
    obtain ⟨x, hxe⟩ : ∃ x : Nat → Nat, x = fun i => m3 (dg c) (dg V0) i 3 := ⟨_, rfl⟩
    rw [← hxe] at hx
    have hxl : ∀ k, x k ≤ 3 * 2 ^ 32 := fun k => by rw [hxe]; exact m3_lt (fun j _ => dg_lt c j) (fun j => dg_lt V0 j) 3 (Nat.le_refl _)
    refine V_iload rfl (by first | rfl | assumption) ?_
    refine V_iload rfl (by first | rfl | assumption) ?_
    refine V_icmp_geN rfl (by omega) (by omega) (fun z => absurd z (by omega)) (fun _ => ?_)
    refine V_bipush (v := nI 11) rfl (by decide) ?_
    refine V_istore rfl (by decide) ?_
    refine V_loop 12 (fun m lc G2 => lc 0 = some (.ref 140) ∧ lc 3 = some (.int (nI n)) ∧ lc 4 = some (.int (nI p)) ∧ lc 5 = some (.int (nI t)) ∧ lc 6 = some (.int (dn (12 - m))) ∧ FP PR G G2 ∧ (∃ f, G2.1 182 = some (LA 12 f) ∧ ∀ j, j < 12 → f j = if 12 - m ≤ j then x j else dg V0 j) ∧ G2.1 183 = some (LA 3 g)) ?_ ?_ 0 _ _ (Nat.zero_le _) ⟨l0, l3, l4, l5, rfl, F1, ⟨f, g182, fun j hj => by rw [if_neg (by omega)]; exact hf j hj⟩, g183⟩
    · clear l0 l3 l4 l5 k140 F1 g182 hf g183 lc ih
      rintro m lc G2 hm ⟨l0, l3, l4, l5, l6, F2, ⟨f2, g182, hf2⟩, g183⟩ ih
      have k140 := F2.get (by decide) g140
      obtain ⟨i, hi⟩ : ∃ i, 12 - m = i + 1 := ⟨11 - m, by omega⟩
      have hi2 : 12 - (m + 1) = i := by omega
      rw [hi] at l6
      rw [hi2] at ih
      rw [dn_s] at l6
      have tl : ∀ lc : kLo, lc 0 = some (.ref 140) → lc 3 = some (.int (nI n)) → lc 4 = some (.int (nI p)) → lc 5 = some (.int (nI t)) → lc 6 = some (.int (nI i)) → lc 7 = some (.long (lN (x i))) → lc 8 = some kmk → V K 0 0 mX12_isRoot 133 lc [] G2 Q := fun lc l0 l3 l4 l5 l6 l7 l8 => by
        refine V_aload_n rfl (by first | rfl | assumption) ?_
        refine V_getf rfl rfl rfl (by repeat (first | exact hup_eq | assumption | refine Eq.trans (hup_ne (by first | assumption | exact Ne.symm (by assumption) | decide | omega)) ?_)) (by first | rfl | assumption) ?_
        refine V_iload rfl (by first | rfl | assumption) ?_
        refine V_lload rfl (by first | rfl | assumption) (by first | rfl | assumption) ?_
        refine V_lastN rfl (by repeat (first | exact hup_eq | assumption | refine Eq.trans (hup_ne (by first | assumption | exact Ne.symm (by assumption) | decide | omega)) ?_)) rfl (by first | omega | decide) (by first | omega | decide) ?_
        refine V_iinc (v := dn i) rfl (by first | rfl | assumption) (dn_d i) (by decide) ?_
        refine V_goto rfl ?_
        refine ih _ _ ⟨l0, l3, l4, l5, rfl, F2.hup (by decide), ⟨_, hup_eq, fun j hj => ?_⟩, (hup_ne (by decide)).trans g183⟩
        by_cases z : j = i
        · rw [z, updN_eq, if_pos (Nat.le_refl _)]
        · rw [updN_ne z, hf2 j hj]
          by_cases z2 : i ≤ j
          · rw [if_pos z2, if_pos (by omega)]
          · rw [if_neg z2, if_neg (by omega)]
      refine V_iload rfl (by first | rfl | assumption) ?_
      refine V_if_ltN rfl (by omega) ?_
      refine V_lconst (v := lN 0) rfl (by decide) ?_
      refine V_lstore rfl (by decide) ?_
      refine V_iconst (v := nI 0) rfl (by decide) ?_
      refine V_istore rfl (by decide) ?_
      refine V_loop (if i < 3 then i + 1 else 3) (fun k lc G3 => G3 = G2 ∧ lc 0 = some (.ref 140) ∧ lc 3 = some (.int (nI n)) ∧ lc 4 = some (.int (nI p)) ∧ lc 5 = some (.int (nI t)) ∧ lc 6 = some (.int (nI i)) ∧ lc 7 = some (.long (lN (m3 (dg c) (dg V0) i k))) ∧ lc 8 = some kmk ∧ lc 9 = some (.int (nI k))) ?_ ?_ 0 _ _ (Nat.zero_le _) ⟨rfl, l0, l3, l4, l5, l6, rfl, rfl, rfl⟩
      · clear l0 l3 l4 l5 l6 lc
        rintro k lc G3 hk ⟨rfl, l0, l3, l4, l5, l6, l7, l8, l9⟩ ih3
        have hk2 : k < 3 ∧ k ≤ i := by
          split at hk <;> omega
        have e1 := hg k hk2.1
        have e2 : f2 (i - k) = dg V0 (i - k) := by rw [hf2 _ (by omega), if_neg (by omega)]
        refine V_iload rfl (by first | rfl | assumption) ?_
        refine V_iconst (v := nI 3) rfl (by decide) ?_
        refine V_icmp_geN rfl (by omega) (by omega) (fun z => absurd z (by omega)) (fun _ => ?_)
        refine V_iload rfl (by first | rfl | assumption) ?_
        refine V_iload rfl (by first | rfl | assumption) ?_
        refine V_icmp_gtN rfl (by omega) (by omega) (fun z => absurd z (by omega)) (fun _ => ?_)
        refine V_lload rfl (by first | rfl | assumption) (by first | rfl | assumption) ?_
        refine V_aload_n rfl (by first | rfl | assumption) ?_
        refine V_getf rfl rfl rfl (by repeat (first | exact hup_eq | assumption | refine Eq.trans (hup_ne (by first | assumption | exact Ne.symm (by assumption) | decide | omega)) ?_)) (by first | rfl | assumption) ?_
        refine V_iload rfl (by first | rfl | assumption) ?_
        refine V_laldN rfl (by repeat (first | exact hup_eq | assumption | refine Eq.trans (hup_ne (by first | assumption | exact Ne.symm (by assumption) | decide | omega)) ?_)) rfl (by first | omega | decide) (by first | omega | decide) ?_
        refine V_aload_n rfl (by first | rfl | assumption) ?_
        refine V_getf rfl rfl rfl (by repeat (first | exact hup_eq | assumption | refine Eq.trans (hup_ne (by first | assumption | exact Ne.symm (by assumption) | decide | omega)) ?_)) (by first | rfl | assumption) ?_
        refine V_iload rfl (by first | rfl | assumption) ?_
        refine V_iload rfl (by first | rfl | assumption) ?_
        refine V_isubN rfl (by first | omega | decide) ?_
        refine V_laldN rfl (by repeat (first | exact hup_eq | assumption | refine Eq.trans (hup_ne (by first | assumption | exact Ne.symm (by assumption) | decide | omega)) ?_)) rfl (by first | omega | decide) (by first | omega | decide) ?_
        rw [e1, e2]
        refine V_lmulN rfl ?_
        refine V_laddN rfl ?_
        refine V_lstore rfl (by decide) ?_
        refine V_iincN (d := 1) rfl (by first | rfl | assumption) (by decide) (by decide) ?_
        refine V_goto rfl ?_
        rw [← m3_s hk2.2]
        exact ih3 _ _ ⟨rfl, l0, l3, l4, l5, l6, rfl, rfl, rfl⟩
      · rintro lc G3 ⟨rfl, l0, l3, l4, l5, l6, l7, l8, l9⟩
        obtain ⟨k, hk⟩ : ∃ k, k = if i < 3 then i + 1 else 3 := ⟨_, rfl⟩
        rw [← hk] at l7 l9
        have hk3 : k = 3 ∨ (k = i + 1 ∧ k ≤ 3) := by
          split at hk <;> omega
        rw [m3_e hk3] at l7
        have tl := tl lc l0 l3 l4 l5 l6 (by rw [hxe]; exact l7) l8
        refine V_iload rfl (by first | rfl | assumption) ?_
        refine V_iconst (v := nI 3) rfl (by decide) ?_
        refine V_icmp_geN rfl (by omega) (by omega) (fun _ => tl) (fun z => ?_)
        refine V_iload rfl (by first | rfl | assumption) ?_
        refine V_iload rfl (by first | rfl | assumption) ?_
        exact V_icmp_gtN rfl (by omega) (by omega) (fun _ => tl) (fun z => absurd (by omega) z)
    · clear l0 l3 l4 l5 k140 F1 g182 hf g183 lc
      rintro lc G2 ⟨l0, l3, l4, l5, l6, F2, ⟨f2, g182, hf2⟩, g183⟩
      refine V_iload rfl (by first | rfl | assumption) ?_
      refine V_if_lt rfl (fun _ => ?_) (fun z => absurd (by decide) z)
      refine V_iconst (v := nI 0) rfl (by decide) ?_
      refine V_istore rfl (by decide) ?_
      refine V_loop 11 (fun i lc G3 => lc 0 = some (.ref 140) ∧ lc 3 = some (.int (nI n)) ∧ lc 4 = some (.int (nI p)) ∧ lc 5 = some (.int (nI t)) ∧ lc 6 = some (.int (nI i)) ∧ FP PR G G3 ∧ (∃ f, G3.1 182 = some (LA 12 f) ∧ ∀ j, j < 12 → f j = cst x i j) ∧ G3.1 183 = some (LA 3 g)) ?_ ?_ 0 _ _ (Nat.zero_le _) ⟨l0, l3, l4, l5, rfl, F2, ⟨f2, g182, fun j hj => by rw [hf2 j hj, if_pos (by omega), cst_0]⟩, g183⟩
      · clear l0 l3 l4 l5 l6 F2 g182 hf2 g183 lc ih
        rintro i lc G3 hi ⟨l0, l3, l4, l5, l6, F3, ⟨f3, g182, hf3⟩, g183⟩ ih
        have k140 := F3.get (by decide) g140
        have e1 : f3 i = x i + cyr (2 ^ 16) x i := by rw [hf3 i (by omega)]; unfold cst; rw [if_neg (by omega), if_pos rfl]
        have e2 : f3 (i + 1) = x (i + 1) := by rw [hf3 (i + 1) (by omega)]; unfold cst; rw [if_neg (by omega), if_neg (by omega)]
        have b1 := hxl i
        have b2 := cyr_le2 hxl i
        refine V_iload rfl (by first | rfl | assumption) ?_
        refine V_bipush (v := nI 11) rfl (by decide) ?_
        refine V_icmp_geN rfl (by omega) (by omega) (fun z => absurd z (by omega)) (fun _ => ?_)
        refine V_aload_n rfl (by first | rfl | assumption) ?_
        refine V_getf rfl rfl rfl (by repeat (first | exact hup_eq | assumption | refine Eq.trans (hup_ne (by first | assumption | exact Ne.symm (by assumption) | decide | omega)) ?_)) (by first | rfl | assumption) ?_
        refine V_iload rfl (by first | rfl | assumption) ?_
        refine V_iconst (v := nI 1) rfl (by decide) ?_
        refine V_iaddN rfl ?_
        refine V_aload_n rfl (by first | rfl | assumption) ?_
        refine V_getf rfl rfl rfl (by repeat (first | exact hup_eq | assumption | refine Eq.trans (hup_ne (by first | assumption | exact Ne.symm (by assumption) | decide | omega)) ?_)) (by first | rfl | assumption) ?_
        refine V_iload rfl (by first | rfl | assumption) ?_
        refine V_iconst (v := nI 1) rfl (by decide) ?_
        refine V_iaddN rfl ?_
        refine V_laldN rfl (by repeat (first | exact hup_eq | assumption | refine Eq.trans (hup_ne (by first | assumption | exact Ne.symm (by assumption) | decide | omega)) ?_)) rfl (by first | omega | decide) (by first | omega | decide) ?_
        refine V_aload_n rfl (by first | rfl | assumption) ?_
        refine V_getf rfl rfl rfl (by repeat (first | exact hup_eq | assumption | refine Eq.trans (hup_ne (by first | assumption | exact Ne.symm (by assumption) | decide | omega)) ?_)) (by first | rfl | assumption) ?_
        refine V_iload rfl (by first | rfl | assumption) ?_
        refine V_laldN rfl (by repeat (first | exact hup_eq | assumption | refine Eq.trans (hup_ne (by first | assumption | exact Ne.symm (by assumption) | decide | omega)) ?_)) rfl (by first | omega | decide) (by first | omega | decide) ?_
        rw [e1, e2]
        refine V_bipush (v := nI 16) rfl (by decide) ?_
        refine V_lshrN' rfl (by first | omega | decide) (by first | omega | decide) ?_
        refine V_laddN rfl ?_
        refine V_lastN rfl (by repeat (first | exact hup_eq | assumption | refine Eq.trans (hup_ne (by first | assumption | exact Ne.symm (by assumption) | decide | omega)) ?_)) rfl (by first | omega | decide) (by first | omega | decide) ?_
        refine V_aload_n rfl (by first | rfl | assumption) ?_
        refine V_getf rfl rfl rfl (by repeat (first | exact hup_eq | assumption | refine Eq.trans (hup_ne (by first | assumption | exact Ne.symm (by assumption) | decide | omega)) ?_)) (by first | rfl | assumption) ?_
        refine V_iload rfl (by first | rfl | assumption) ?_
        refine V_aload_n rfl (by first | rfl | assumption) ?_
        refine V_getf rfl rfl rfl (by repeat (first | exact hup_eq | assumption | refine Eq.trans (hup_ne (by first | assumption | exact Ne.symm (by assumption) | decide | omega)) ?_)) (by first | rfl | assumption) ?_
        refine V_iload rfl (by first | rfl | assumption) ?_
        refine V_laldN rfl (by repeat (first | exact hup_eq | assumption | refine Eq.trans (hup_ne (by first | assumption | exact Ne.symm (by assumption) | decide | omega)) ?_)) rfl (by first | omega | decide) (by first | omega | decide) ?_
        rw [updN_ne (by omega), e1]
        refine V_ldc2 (v := lN 65535) rfl kc_X12_150 ?_
        refine V_landN 16 rfl (by decide) (by decide) (by first | omega | decide) ?_
        refine V_lastN rfl (by repeat (first | exact hup_eq | assumption | refine Eq.trans (hup_ne (by first | assumption | exact Ne.symm (by assumption) | decide | omega)) ?_)) rfl (by first | omega | decide) (by first | omega | decide) ?_
        refine V_iincN (d := 1) rfl (by first | rfl | assumption) (by decide) (by decide) ?_
        refine V_goto rfl ?_
        refine ih _ _ ⟨l0, l3, l4, l5, rfl, (F3.hup (by decide)).hup (by decide), ⟨_, hup_eq, fun j hj => ?_⟩, (hup_ne (by decide)).trans ((hup_ne (by decide)).trans g183)⟩
        rw [← cst_s]
        unfold updN
        rw [hf3 j hj]
      · clear l0 l3 l4 l5 l6 F2 g182 hf2 g183 lc
        rintro lc G3 ⟨l0, l3, l4, l5, l6, F3, ⟨f3, g182, hf3⟩, g183⟩
        refine V_iload rfl (by first | rfl | assumption) ?_
        refine V_bipush (v := nI 11) rfl (by decide) ?_
        refine V_icmp_geN rfl (by omega) (by omega) (fun _ => ?_) (fun z => absurd (by omega) z)
        refine V_iincN (d := 1) rfl (by first | rfl | assumption) (by decide) (by decide) ?_
        refine V_goto rfl ?_
        exact ih _ _ ⟨l0, l3, l4, rfl, F3, ⟨f3, g182, fun j hj => by rw [hf3 j hj]; exact cst_e hx (by omega) hj⟩, ⟨g, g183, hg⟩⟩
  · rintro lc G' ⟨l0, l3, l4, l5, F1, ⟨f, g182, hf⟩, ⟨g, g183, hg⟩⟩
    refine V_iload rfl (by first | rfl | assumption) ?_
    refine V_iload rfl (by first | rfl | assumption) ?_
    refine V_icmp_geN rfl (by omega) (by omega) (fun _ => ?_) (fun z => absurd (by omega) z)
    have hlt : c ^ p < 2 ^ 111 ∧ c ^ p / (2 ^ 16) ^ (2 * p) < 2 ^ 30 := by
      rcases hp with z | z
      · subst z
        have h1 : c ^ 2 < (2 ^ 37) ^ 2 := Nat.pow_lt_pow_left hc (by decide)
        have h2 : ((2 : Nat) ^ 37) ^ 2 = 2 ^ 74 := by decide
        have h3 : ((2 : Nat) ^ 16) ^ (2 * 2) = 2 ^ 64 := by decide
        rw [h3]
        omega
      · subst z
        have h1 : c ^ 3 < (2 ^ 37) ^ 3 := Nat.pow_lt_pow_left hc (by decide)
        have h2 : ((2 : Nat) ^ 37) ^ 3 = 2 ^ 111 := by decide
        have h3 : ((2 : Nat) ^ 16) ^ (2 * 3) = 2 ^ 96 := by decide
        rw [h3]
        omega
    exact V_rt3 hlt.1 hp hlt.2 hn l0 l3 l4 (F1.get (by decide) g140) g182 hf (hq _ F1 ⟨f, g182⟩ ⟨g, g183⟩)
end MRoot2
