/-! isRoot, rootOf -/
section MRoot3
variable {K : kK} {G : kG} {Q : kO → kG → Prop} {th ta os hs ps rs : Int32}
abbrev aRt (G : kG) : Prop := (∃ f, G.1 182 = some (LA 12 f)) ∧ ∃ g, G.1 183 = some (LA 3 g)
set_option maxHeartbeats 4000000 in
theorem c_misRoot {c n p : Nat} (hc : c < 2 ^ 37) (hp : p = 2 ∨ p = 3) (hn : n < 2 ^ 20) (g140 : G.1 140 = some (MO th ta os hs ps rs)) (ha : aRt G) (hq : ∀ G', FP PR G G' → aRt G' → Q (.inl (some (.int (bI (rtQ c n p))))) G') : C K 0 0 mX12_isRoot [.ref 140, .long (lN c), .int (nI n), .int (nI p)] G Q := by
  refine C_of okX12_isRoot (Nat.le_of_ble_eq_true rfl) ?_
  obtain ⟨⟨f0, g182⟩, ⟨g0, g183⟩⟩ := ha
  refine V_iconst (v := nI 0) rfl (by decide) ?_
  refine V_istore rfl (by decide) ?_
  refine V_loop 12 (fun i lc G1 => lc 0 = some (.ref 140) ∧ lc 1 = some (.long (lN c)) ∧ lc 2 = some kmk ∧ lc 3 = some (.int (nI n)) ∧ lc 4 = some (.int (nI p)) ∧ lc 5 = some (.int (nI i)) ∧ FP PR G G1 ∧ (∃ f, G1.1 182 = some (LA 12 f) ∧ ∀ j, j < i → f j = dg 1 j) ∧ G1.1 183 = some (LA 3 g0)) ?_ ?_ 0 _ _ (Nat.zero_le _) ⟨rfl, rfl, rfl, rfl, rfl, rfl, FP.rf, ⟨f0, g182, fun j hj => absurd hj (Nat.not_lt_zero j)⟩, g183⟩
  · clear g182 g183
    rintro i lc G1 hi ⟨l0, l1, l2, l3, l4, l5, F1, ⟨f, g182, hf⟩, g183⟩ ih
    have k140 := F1.get (by decide) g140
    have tl : V K 0 0 mX12_isRoot 26 lc [.long (lN (dg 1 i)), .int (nI i), .ref 182] G1 Q := by
      refine V_lastN rfl (by repeat (first | exact hup_eq | assumption | refine Eq.trans (hup_ne (by first | assumption | exact Ne.symm (by assumption) | decide | omega)) ?_)) rfl (by first | omega | decide) (by first | omega | decide) ?_
      refine V_iincN (d := 1) rfl (by first | rfl | assumption) (by decide) (by decide) ?_
      refine V_goto rfl ?_
      refine ih _ _ ⟨l0, l1, l2, l3, l4, rfl, F1.hup (by decide), ⟨_, hup_eq, fun j hj => ?_⟩, (hup_ne (by decide)).trans g183⟩
      by_cases z : j = i
      · rw [z, updN_eq]
      · rw [updN_ne z]; exact hf j (by omega)
    refine V_iload rfl (by first | rfl | assumption) ?_
    refine V_bipush (v := nI 12) rfl (by decide) ?_
    refine V_icmp_geN rfl (by omega) (by omega) (fun z => absurd z (by omega)) (fun _ => ?_)
    refine V_aload_n rfl (by first | rfl | assumption) ?_
    refine V_getf rfl rfl rfl (by repeat (first | exact hup_eq | assumption | refine Eq.trans (hup_ne (by first | assumption | exact Ne.symm (by assumption) | decide | omega)) ?_)) (by first | rfl | assumption) ?_
    refine V_iload rfl (by first | rfl | assumption) ?_
    refine V_iload rfl (by first | rfl | assumption) ?_
    refine V_if_neN rfl (by omega) (fun z => ?_) (fun z => ?_)
    · rw [dg_0 (V := 1) (i := i) (m := 1) (by decide) (by omega)] at tl
      refine V_lconst (v := lN 0) rfl (by decide) ?_
      exact tl
    · rw [z, show dg 1 0 = 1 by decide] at tl
      refine V_lconst (v := lN 1) rfl (by decide) ?_
      refine V_goto rfl ?_
      rw [z]
      exact tl
  · clear g182 g183
    rintro lc G1 ⟨l0, l1, l2, l3, l4, l5, F1, ⟨f, g182, hf⟩, g183⟩
    refine V_iload rfl (by first | rfl | assumption) ?_
    refine V_bipush (v := nI 12) rfl (by decide) ?_
    refine V_icmp_geN rfl (by omega) (by omega) (fun _ => ?_) (fun z => absurd (by omega) z)
    refine V_iconst (v := nI 0) rfl (by decide) ?_
    refine V_istore rfl (by decide) ?_
    refine V_loop 3 (fun i lc G2 => lc 0 = some (.ref 140) ∧ lc 1 = some (.long (lN c)) ∧ lc 2 = some kmk ∧ lc 3 = some (.int (nI n)) ∧ lc 4 = some (.int (nI p)) ∧ lc 5 = some (.int (nI i)) ∧ FP PR G G2 ∧ G2.1 182 = some (LA 12 f) ∧ (∃ g, G2.1 183 = some (LA 3 g) ∧ ∀ j, j < i → g j = dg c j)) ?_ ?_ 0 _ _ (Nat.zero_le _) ⟨l0, l1, l2, l3, l4, rfl, F1, g182, ⟨g0, g183, fun j hj => absurd hj (Nat.not_lt_zero j)⟩⟩
    · clear l0 l1 l2 l3 l4 l5 F1 g182 g183 lc
      rintro i lc G2 hi ⟨l0, l1, l2, l3, l4, l5, F2, g182, ⟨g, g183, hg⟩⟩ ih
      have k140 := F2.get (by decide) g140
      have hcd : c / 2 ^ (16 * i) < 2 ^ 64 := Nat.lt_of_le_of_lt (Nat.div_le_self _ _) (by omega)
      refine V_iload rfl (by first | rfl | assumption) ?_
      refine V_iconst (v := nI 3) rfl (by decide) ?_
      refine V_icmp_geN rfl (by omega) (by omega) (fun z => absurd z (by omega)) (fun _ => ?_)
      refine V_aload_n rfl (by first | rfl | assumption) ?_
      refine V_getf rfl rfl rfl (by repeat (first | exact hup_eq | assumption | refine Eq.trans (hup_ne (by first | assumption | exact Ne.symm (by assumption) | decide | omega)) ?_)) (by first | rfl | assumption) ?_
      refine V_iload rfl (by first | rfl | assumption) ?_
      refine V_lload_n rfl (by first | rfl | assumption) (by first | rfl | assumption) ?_
      refine V_bipush (v := nI 16) rfl (by decide) ?_
      refine V_iload rfl (by first | rfl | assumption) ?_
      refine V_imulN rfl ?_
      refine V_lshrN' rfl (by first | omega | decide) (by first | omega | decide) ?_
      refine V_ldc2 (v := lN 65535) rfl kc_X12_150 ?_
      refine V_landN 16 rfl (by decide) (by decide) (by exact hcd) ?_
      refine V_lastN rfl (by repeat (first | exact hup_eq | assumption | refine Eq.trans (hup_ne (by first | assumption | exact Ne.symm (by assumption) | decide | omega)) ?_)) rfl (by first | omega | decide) (by first | omega | decide) ?_
      refine V_iincN (d := 1) rfl (by first | rfl | assumption) (by decide) (by decide) ?_
      refine V_goto rfl ?_
      refine ih _ _ ⟨l0, l1, l2, l3, l4, rfl, F2.hup (by decide), (hup_ne (by decide)).trans g182, ⟨_, hup_eq, fun j hj => ?_⟩⟩
      by_cases z : j = i
      · rw [z, updN_eq]; unfold dg; rw [← Nat.pow_mul]
      · rw [updN_ne z]; exact hg j (by omega)
    · clear l0 l1 l2 l3 l4 l5 F1 g182 g183 lc
      rintro lc G2 ⟨l0, l1, l2, l3, l4, l5, F2, g182, ⟨g, g183, hg⟩⟩
      refine V_iload rfl (by first | rfl | assumption) ?_
      refine V_iconst (v := nI 3) rfl (by decide) ?_
      refine V_icmp_geN rfl (by omega) (by omega) (fun _ => ?_) (fun z => absurd (by omega) z)
      refine V_iconst (v := nI 0) rfl (by decide) ?_
      refine V_istore rfl (by decide) ?_
      exact V_rt2 hc hp hn l0 l3 l4 rfl (F2.get (by decide) g140) ⟨f, g182, hf⟩ ⟨g, g183, hg⟩ (fun G' F h1 h2 => hq G' (F2.trans F (fun _ q => q)) ⟨h1, h2⟩)
theorem or_bit {x m : Nat} (h : x % 2 ^ (m + 1) = 0) : x ||| 1 * 2 ^ m = x + 2 ^ m := by
  obtain ⟨y, hy⟩ : ∃ y, x = 2 ^ (m + 1) * y := ⟨x / 2 ^ (m + 1), by have := Nat.div_add_mod x (2 ^ (m + 1)); omega⟩
  have h2 : (2 : Nat) ^ m < 2 ^ (m + 1) := Nat.pow_lt_pow_right (by decide) (by omega)
  rw [hy, Nat.one_mul, Nat.two_pow_add_eq_or_of_lt h2]
theorem rtF_s {n p i x : Nat} : rtF n p (i + 1) x = rtF n p i (if rtQ (x + 2 ^ i) n p then x + 2 ^ i else x) := rfl
set_option maxHeartbeats 4000000 in
theorem c_mrootOf {n p : Nat} (hp : p = 2 ∨ p = 3) (hn : n < 2 ^ 20) (g140 : G.1 140 = some (MO th ta os hs ps rs)) (ha : aRt G) (hq : ∀ G', FP PR G G' → aRt G' → Q (.inl (some (.int (nI (rtF n p 37 0))))) G') : C K 0 0 mX12_rootOf [.ref 140, .int (nI n), .int (nI p)] G Q := by
  refine C_of okX12_rootOf (Nat.le_of_ble_eq_true rfl) ?_
  refine V_lconst (v := lN 0) rfl (by decide) ?_
  refine V_lstore_n rfl (by decide) ?_
  refine V_bipush (v := nI 36) rfl (by decide) ?_
  refine V_istore rfl (by decide) ?_
  refine V_loop 37 (fun m lc G1 => lc 0 = some (.ref 140) ∧ lc 1 = some (.int (nI n)) ∧ lc 2 = some (.int (nI p)) ∧ lc 4 = some kmk ∧ lc 5 = some (.int (dn (37 - m))) ∧ FP PR G G1 ∧ aRt G1 ∧ ∃ x : Nat, lc 3 = some (.long (lN x)) ∧ x % 2 ^ (37 - m) = 0 ∧ x < 2 ^ 37 ∧ rtF n p (37 - m) x = rtF n p 37 0) ?_ ?_ 0 _ _ (Nat.zero_le _) ⟨rfl, rfl, rfl, rfl, rfl, FP.rf, ha, 0, rfl, rfl, by decide, rfl⟩
  · rintro m lc G1 hm ⟨l0, l1, l2, l4, l5, F1, ha1, x, l3, hx0, hxl, hxr⟩ ih
    obtain ⟨i, hi⟩ : ∃ i, 37 - m = i + 1 := ⟨36 - m, by omega⟩
    have hi2 : 37 - (m + 1) = i := by omega
    rw [hi] at l5 hx0 hxr
    rw [hi2] at ih
    rw [dn_s] at l5
    rw [rtF_s] at hxr
    have eor := or_bit hx0
    have hdiv : x % 2 ^ i = 0 := Nat.mod_eq_zero_of_dvd (Nat.dvd_trans (Nat.pow_dvd_pow 2 (Nat.le_succ i)) (Nat.dvd_of_mod_eq_zero hx0))
    have hdiv2 : (x + 2 ^ i) % 2 ^ i = 0 := by rw [Nat.add_mod_right]; exact hdiv
    have hx2 : x + 2 ^ i < 2 ^ 37 := by
      obtain ⟨y, hy⟩ : ∃ y, x = 2 ^ (i + 1) * y := ⟨x / 2 ^ (i + 1), by have := Nat.div_add_mod x (2 ^ (i + 1)); omega⟩
      have h37 : (2 : Nat) ^ 37 = 2 ^ (i + 1) * 2 ^ (36 - i) := by rw [← Nat.pow_add, show i + 1 + (36 - i) = 37 by omega]
      have hp1 : (2 : Nat) ^ i < 2 ^ (i + 1) := Nat.pow_lt_pow_right (by decide) (by omega)
      rw [hy, h37] at hxl
      have h3 := Nat.lt_of_mul_lt_mul_left hxl
      rw [hy, h37]
      refine Nat.lt_of_lt_of_le (Nat.add_lt_add_left hp1 _) ?_
      rw [← Nat.mul_succ]
      exact Nat.mul_le_mul_left _ h3
    have k140 := F1.get (by decide) g140
    refine V_iload rfl (by first | rfl | assumption) ?_
    refine V_if_ltN rfl (by omega) ?_
    refine V_aload_n rfl (by first | rfl | assumption) ?_
    refine V_lload_n rfl (by first | rfl | assumption) (by first | rfl | assumption) ?_
    refine V_lconst (v := lN 1) rfl (by decide) ?_
    refine V_iload rfl (by first | rfl | assumption) ?_
    refine V_lshlN rfl (by first | omega | decide) ?_
    refine V_lorN rfl ?_
    rw [eor]
    refine V_iload_n rfl (by first | rfl | assumption) ?_
    refine V_iload_n rfl (by first | rfl | assumption) ?_
    refine V_callV (M' := mX12_isRoot) (mc := 0) (ms := 0) (bc' := 0) (bs' := 0) rfl cw_X12_154 iv_X12_isRoot (by repeat (first | exact hup_eq | assumption | refine Eq.trans (hup_ne (by first | assumption | exact Ne.symm (by assumption) | decide | omega)) ?_)) rfl rfl (Nat.le_of_ble_eq_true rfl) ⟨Nat.le_of_ble_eq_true rfl, Nat.le_of_ble_eq_true rfl⟩ ⟨Nat.le_of_ble_eq_true rfl, Nat.le_of_ble_eq_true rfl⟩ (As := [.long (lN (x + 2 ^ i)), .int (nI n), .int (nI p)]) (c_misRoot (Q := fun o G2 => o = .inl (some (.int (bI (rtQ (x + 2 ^ i) n p)))) ∧ FP PR G1 G2 ∧ aRt G2) hx2 hp hn (F1.get (by decide) g140) ha1 (fun G2 h1 h2 => ⟨rfl, h1, h2⟩)) (fun o G2 h => ?_) (fun E G' h => by cases h.1)
    obtain ⟨h9, F2, ha2⟩ := h
    cases h9
    have F3 : FP PR G G2 := F1.trans F2 (fun _ q => q)
    refine V_if_eqB rfl (fun z => ?_) (fun z => ?_)
    · rw [z] at hxr
      refine V_lload_n rfl (by first | rfl | assumption) (by first | rfl | assumption) ?_
      refine V_lstore_n rfl (by decide) ?_
      refine V_iinc (v := dn i) rfl (by first | rfl | assumption) (dn_d i) (by decide) ?_
      refine V_goto rfl ?_
      exact ih _ _ ⟨l0, l1, l2, rfl, rfl, F3, ha2, x, rfl, hdiv, hxl, hxr⟩
    · rw [z] at hxr
      refine V_lload_n rfl (by first | rfl | assumption) (by first | rfl | assumption) ?_
      refine V_lconst (v := lN 1) rfl (by decide) ?_
      refine V_iload rfl (by first | rfl | assumption) ?_
      refine V_lshlN rfl (by first | omega | decide) ?_
      refine V_lorN rfl ?_
      rw [eor]
      refine V_goto rfl ?_
      refine V_lstore_n rfl (by decide) ?_
      refine V_iinc (v := dn i) rfl (by first | rfl | assumption) (dn_d i) (by decide) ?_
      refine V_goto rfl ?_
      exact ih _ _ ⟨l0, l1, l2, rfl, rfl, F3, ha2, x + 2 ^ i, rfl, hdiv2, hx2, hxr⟩
  · rintro lc G1 ⟨l0, l1, l2, l4, l5, F1, ha1, x, l3, hx0, hxl, hxr⟩
    refine V_iload rfl (by first | rfl | assumption) ?_
    refine V_if_lt rfl (fun _ => ?_) (fun z => absurd (by decide) z)
    refine V_lload_n rfl (by first | rfl | assumption) (by first | rfl | assumption) ?_
    refine V_l2iN rfl ?_
    rw [show x = rtF n p 37 0 from hxr]
    exact V_iret rfl rfl (hq _ F1 ha1)
end MRoot3
