/-! the reference's isRoot -/
section MRoot1
variable {K : kK} {G : kG} {Q : kO → kG → Prop} {th ta os hs ps rs : Int32}
theorem lN_or (x y : Nat) : lN x ||| lN y = lN (x ||| y) := by
  apply Int64.toBitVec_inj.mp
  rw [Int64.toBitVec_or]
  show BitVec.ofNat 64 x ||| BitVec.ofNat 64 y = BitVec.ofNat 64 (x ||| y)
  rw [BitVec.ofNat_or]
theorem V_lorN {bc bs : Nat} {M : kM} {pc n t : Nat} {lc : kLo} {st : List Value} {x y : Nat} (h : kf M pc = some (.lor, n, t)) (kk : V K bc bs M n lc (.long (lN (x ||| y)) :: st) G Q) : V K bc bs M pc lc (.long (lN y) :: .long (lN x) :: st) G Q :=
  V_lor h (by rw [lN_or]; exact kk)
theorem vs_0 {B : Nat} (hB : 0 < B) {f : Nat → Nat} : ∀ n, vs B f n = 0 ↔ ∀ j, j < n → f j = 0
  | 0 => ⟨fun _ j hj => absurd hj (Nat.not_lt_zero j), fun _ => rfl⟩
  | n + 1 => by
    show vs B f n + f n * B ^ n = 0 ↔ _
    have hp : 0 < B ^ n := Nat.pow_pos hB
    constructor
    · intro h j hj
      have h1 : vs B f n = 0 := by omega
      have h2 : f n * B ^ n = 0 := by omega
      by_cases z : j = n
      · subst z
        rcases Nat.mul_eq_zero.mp h2 with q | q
        · exact q
        · omega
      · exact (vs_0 hB n).mp h1 j (by omega)
    · intro h
      rw [(vs_0 hB n).mpr (fun j hj => h j (by omega)), h n (by omega), Nat.zero_mul]
theorem or_lt16 {a b : Nat} (ha : a < 2 ^ 16) (hb : b < 2 ^ 16) : a ||| b < 2 ^ 16 := Nat.or_lt_two_pow ha hb
abbrev PR (j : Nat) : Prop := j = 182 ∨ j = 183
set_option maxHeartbeats 4000000 in
theorem V_rt3 {V0 n p : Nat} {f : Nat → Nat} {lc : kLo} (hV : V0 < 2 ^ 111) (hp : p = 2 ∨ p = 3) (hV2 : V0 / (2 ^ 16) ^ (2 * p) < 2 ^ 30) (hn : n < 2 ^ 20) (l0 : lc 0 = some (.ref 140)) (l3 : lc 3 = some (.int (nI n))) (l4 : lc 4 = some (.int (nI p))) (g140 : G.1 140 = some (MO th ta os hs ps rs)) (g182 : G.1 182 = some (LA 12 f)) (hf : ∀ j, j < 12 → f j = dg V0 j) (hq : Q (.inl (some (.int (bI (decide (V0 / (2 ^ 16) ^ (2 * p) < n) || (decide (V0 / (2 ^ 16) ^ (2 * p) = n) && decide (V0 % (2 ^ 16) ^ (2 * p) = 0))))))) G) : V K 0 0 mX12_isRoot 217 lc [] G Q := by
  refine V_lconst (v := lN 0) rfl (by decide) ?_
  refine V_lstore rfl (by decide) ?_
  refine V_lconst (v := lN 0) rfl (by decide) ?_
  refine V_lstore rfl (by decide) ?_
  refine V_bipush (v := nI 11) rfl (by decide) ?_
  refine V_istore rfl (by decide) ?_
  refine V_loop 12 (fun m lc G' => G' = G ∧ lc 0 = some (.ref 140) ∧ lc 3 = some (.int (nI n)) ∧ lc 4 = some (.int (nI p)) ∧ lc 5 = some (.long (lN (V0 / (2 ^ 16) ^ (if 12 - m < 2 * p then 2 * p else 12 - m)))) ∧ lc 6 = some kmk ∧ lc 8 = some kmk ∧ lc 9 = some (.int (dn (12 - m))) ∧ ∃ lo : Nat, lc 7 = some (.long (lN lo)) ∧ lo < 2 ^ 16 ∧ (lo = 0 ↔ ∀ j, 12 - m ≤ j → j < 2 * p → dg V0 j = 0)) ?_ ?_ 0 _ _ (Nat.zero_le _) ⟨rfl, l0, l3, l4, ?_, rfl, rfl, ?_, 0, rfl, by decide, ?_⟩
  · rintro m lc G' hm ⟨rfl, l0, l3, l4, l5, l6, l8, l9, lo, l7, hlo, hlo0⟩ ih
    obtain ⟨i, hi⟩ : ∃ i, 12 - m = i + 1 := ⟨11 - m, by omega⟩
    have hi2 : 12 - (m + 1) = i := by omega
    rw [hi] at l5 l9 hlo0
    rw [hi2] at ih
    rw [dn_s] at l9
    have hfi := hf i (by omega)
    have hdl := dg_lt V0 i
    refine V_iload rfl (by first | rfl | assumption) ?_
    refine V_if_ltN rfl (by omega) ?_
    refine V_iload rfl (by first | rfl | assumption) ?_
    refine V_iconst (v := nI 2) rfl (by decide) ?_
    refine V_iload rfl (by first | rfl | assumption) ?_
    refine V_imulN rfl ?_
    refine V_icmp_ltN rfl (by omega) (by omega) (fun q => ?_) (fun q => ?_)
    · rw [show (if i + 1 < 2 * p then 2 * p else i + 1) = 2 * p by split <;> omega] at l5
      rw [if_pos q] at ih
      refine V_lload rfl (by first | rfl | assumption) (by first | rfl | assumption) ?_
      refine V_lstore rfl (by decide) ?_
      refine V_iload rfl (by first | rfl | assumption) ?_
      refine V_iconst (v := nI 2) rfl (by decide) ?_
      refine V_iload rfl (by first | rfl | assumption) ?_
      refine V_imulN rfl ?_
      refine V_icmp_geN rfl (by omega) (by omega) (fun z => absurd z (by omega)) (fun _ => ?_)
      refine V_lload rfl (by first | rfl | assumption) (by first | rfl | assumption) ?_
      refine V_aload_n rfl (by first | rfl | assumption) ?_
      refine V_getf rfl rfl rfl (by repeat (first | exact hup_eq | assumption | refine Eq.trans (hup_ne (by first | assumption | exact Ne.symm (by assumption) | decide | omega)) ?_)) (by first | rfl | assumption) ?_
      refine V_iload rfl (by first | rfl | assumption) ?_
      refine V_laldN rfl (by repeat (first | exact hup_eq | assumption | refine Eq.trans (hup_ne (by first | assumption | exact Ne.symm (by assumption) | decide | omega)) ?_)) rfl (by first | omega | decide) (by first | omega | decide) ?_
      rw [hfi]
      refine V_lorN rfl ?_
      refine V_goto rfl ?_
      refine V_lstore rfl (by decide) ?_
      refine V_iinc (v := dn i) rfl (by first | rfl | assumption) (dn_d i) (by decide) ?_
      refine V_goto rfl ?_
      refine ih _ _ ⟨rfl, l0, l3, l4, rfl, rfl, rfl, rfl, lo ||| dg V0 i, rfl, or_lt16 hlo hdl, ?_⟩
      rw [Nat.or_eq_zero_iff, hlo0]
      constructor
      · rintro ⟨h1, h2⟩ j hj hj2
        by_cases z : j = i
        · rw [z]; exact h2
        · exact h1 j (by omega) hj2
      · intro h
        exact ⟨fun j hj hj2 => h j (by omega) hj2, h i (Nat.le_refl _) q⟩
    · rw [if_neg (by omega)] at l5
      rw [if_neg q] at ih
      refine V_lload rfl (by first | rfl | assumption) (by first | rfl | assumption) ?_
      refine V_ldc2 (v := lN 65536) rfl kc_X12_152 ?_
      refine V_lmulN rfl ?_
      refine V_aload_n rfl (by first | rfl | assumption) ?_
      refine V_getf rfl rfl rfl (by repeat (first | exact hup_eq | assumption | refine Eq.trans (hup_ne (by first | assumption | exact Ne.symm (by assumption) | decide | omega)) ?_)) (by first | rfl | assumption) ?_
      refine V_iload rfl (by first | rfl | assumption) ?_
      refine V_laldN rfl (by repeat (first | exact hup_eq | assumption | refine Eq.trans (hup_ne (by first | assumption | exact Ne.symm (by assumption) | decide | omega)) ?_)) rfl (by first | omega | decide) (by first | omega | decide) ?_
      rw [hfi]
      refine V_laddN rfl ?_
      rw [dg_s]
      refine V_goto rfl ?_
      refine V_lstore rfl (by decide) ?_
      refine V_iload rfl (by first | rfl | assumption) ?_
      refine V_iconst (v := nI 2) rfl (by decide) ?_
      refine V_iload rfl (by first | rfl | assumption) ?_
      refine V_imulN rfl ?_
      refine V_icmp_geN rfl (by omega) (by omega) (fun _ => ?_) (fun z => absurd (by omega) z)
      refine V_lload rfl (by first | rfl | assumption) (by first | rfl | assumption) ?_
      refine V_lstore rfl (by decide) ?_
      refine V_iinc (v := dn i) rfl (by first | rfl | assumption) (dn_d i) (by decide) ?_
      refine V_goto rfl ?_
      refine ih _ _ ⟨rfl, l0, l3, l4, rfl, rfl, rfl, rfl, lo, rfl, hlo, ?_⟩
      rw [hlo0]
      exact ⟨fun h j hj hj2 => h j (by omega) hj2, fun h j hj hj2 => h j (by omega) hj2⟩
  · rintro lc G' ⟨rfl, l0, l3, l4, l5, l6, l8, l9, lo, l7, hlo, hlo0⟩
    rw [if_pos (by omega)] at l5
    have hlo1 : lo = 0 ↔ V0 % (2 ^ 16) ^ (2 * p) = 0 := by
      rw [hlo0, ← vs_dg, vs_0 (by decide)]
      exact ⟨fun h j hj => h j (by omega) hj, fun h j _ hj => h j hj⟩
    clear hlo0
    obtain ⟨H, hH⟩ : ∃ H, H = V0 / (2 ^ 16) ^ (2 * p) := ⟨_, rfl⟩
    obtain ⟨R, hR⟩ : ∃ R, R = V0 % (2 ^ 16) ^ (2 * p) := ⟨_, rfl⟩
    rw [← hH] at l5 hq hV2
    rw [← hR] at hq hlo1
    have yes : (decide (H < n) || (decide (H = n) && decide (R = 0))) = true → V K 0 0 mX12_isRoot 317 lc [] G' Q := fun q => by
      rw [q] at hq
      refine V_iconst (v := bI true) rfl (by decide) ?_
      refine V_goto rfl ?_
      exact V_zret rfl rfl (by decide) hq
    have no : (decide (H < n) || (decide (H = n) && decide (R = 0))) = false → V K 0 0 mX12_isRoot 321 lc [] G' Q := fun q => by
      rw [q] at hq
      refine V_iconst (v := bI false) rfl (by decide) ?_
      exact V_zret rfl rfl (by decide) hq
    refine V_iload rfl (by first | rfl | assumption) ?_
    refine V_if_lt rfl (fun _ => ?_) (fun z => absurd (by decide) z)
    refine V_lload rfl (by first | rfl | assumption) (by first | rfl | assumption) ?_
    refine V_iload_n rfl (by first | rfl | assumption) ?_
    refine V_i2lN rfl (by first | omega | decide) ?_
    refine V_lcmp rfl ?_
    refine V_if_ltLN rfl (by omega) (by omega) (fun q => yes (by rw [decide_eq_true q]; rfl)) (fun q1 => ?_)
    refine V_lload rfl (by first | rfl | assumption) (by first | rfl | assumption) ?_
    refine V_iload_n rfl (by first | rfl | assumption) ?_
    refine V_i2lN rfl (by first | omega | decide) ?_
    refine V_lcmp rfl ?_
    refine V_if_neLN rfl (by omega) (by omega) (fun q => no (by rw [decide_eq_false q1, decide_eq_false q]; rfl)) (fun q2 => ?_)
    refine V_lload rfl (by first | rfl | assumption) (by first | rfl | assumption) ?_
    refine V_lconst (v := lN 0) rfl (by decide) ?_
    refine V_lcmp rfl ?_
    refine V_if_neLN rfl (by omega) (by omega) (fun q => no (by rw [decide_eq_false q1, decide_eq_false (fun z => q (hlo1.mpr z)), Bool.and_false]; rfl)) (fun q3 => ?_)
    exact yes (by rw [decide_eq_true q2, decide_eq_true (hlo1.mp q3), Bool.and_self, Bool.or_true])
  · show some (Value.long (lN 0)) = _
    rw [if_neg (by omega), Nat.div_eq_of_lt (Nat.lt_of_lt_of_le hV (by decide))]
  · rfl
  · exact ⟨fun _ j hj hj2 => absurd hj2 (by omega), fun _ => rfl⟩
end MRoot1
