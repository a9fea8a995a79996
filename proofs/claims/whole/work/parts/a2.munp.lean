/-! the reference opens a packet -/
section MUnp
variable {K : kK} {G : kG} {Q : kO → kG → Prop} {T : TB} {S : SG} {th ta os hs ps rs : Int32}
abbrev PU (j : Nat) : Prop := j = 140 ∨ (150 ≤ j ∧ j ≤ 156) ∨ (176 ≤ j ∧ j ≤ 178) ∨ j = 180 ∨ j = 181
def zrU (c : List Nat) (r : Nat) : Nat → Bool
  | 0 => true
  | i + 1 => zrU c r i && (decide (i < r) || decide (gD c (5 + i) = 0))
theorem zrU_iff {c : List Nat} {r : Nat} : ∀ n, zrU c r n = true ↔ ∀ k, k < n → r ≤ k → gD c (5 + k) = 0
  | 0 => ⟨fun _ j hj => absurd hj (Nat.not_lt_zero j), fun _ => rfl⟩
  | n + 1 => by
    simp only [zrU, Bool.and_eq_true, Bool.or_eq_true, decide_eq_true_eq]
    rw [zrU_iff n]
    constructor
    · rintro ⟨h1, h2⟩ j hj hr
      by_cases e : j = n
      · subst e; rcases h2 with h2 | h2
        · omega
        · exact h2
      · exact h1 j (by omega) hr
    · intro h
      refine ⟨fun j hj hr => h j (by omega) hr, ?_⟩
      by_cases e : n < r
      · exact Or.inl e
      · exact Or.inr (h n (by omega) (by omega))
def pb4 (f : Nat → Nat) : Nat → Nat
  | 0 => 0
  | k + 1 => 256 * pb4 f k + f k
theorem pb4_4 (f : Nat → Nat) : pb4 f 4 = be4v f 0 := by
  unfold be4v
  simp only [pb4, Nat.zero_add]
  omega
theorem pb4_lt {f : Nat → Nat} (h : ∀ j, f j < 256) : ∀ k, pb4 f k < 256 ^ k
  | 0 => Nat.zero_lt_one
  | k + 1 => by
    have h1 := pb4_lt h k
    have h2 := h k
    simp only [pb4]
    rw [Nat.pow_succ]
    omega
set_option maxHeartbeats 8000000 in
/-- the plain packet is read -/
theorem V_munp2 {e n : Nat} {made : Bool} {c : List Nat} {ob : Nat → Nat} {lc : kLo} (he : e < 2) (g140 : G.1 140 = some (MO th ta os hs ps rs)) (hy : yM 180 240 G) (g181 : G.1 181 = some (YA 260 ob)) (hob : ∀ j, ob j < 256) (g163 : ∃ f : Nat → Bool, G.1 163 = some (ZA 2 f) ∧ f e = made) (hc : c.length = n) (hn : 6 ≤ n ∧ n ≤ 228) (hoc : ∀ j, j < n → ob j = gD c j) (l0 : lc 0 = some (.ref 140)) (l1 : lc 1 = some (.int (nI e))) (l4 : lc 4 = some (.int (nI n)))
    (hq1 : rdP made c = none → ∀ G' rs', FP (fun j => j = 140 ∨ j = 180) G G' → G'.1 140 = some (MO th ta os hs ps rs') → yM 180 240 G' → Q (.inl (some (.int (bI false)))) G')
    (hq2 : ∀ p, rdP made c = some p → ∀ G', FP (fun j => j = 140 ∨ j = 180) G G' → G'.1 140 = some (MO th ta os hs ps (nI p.length)) → rdM p G' → Q (.inl (some (.int (bI true)))) G') : V K 0 0 mX12_unpack 208 lc [] G Q := by
  obtain ⟨rd0, g180, hrd0⟩ := id hy
  obtain ⟨f7, g163, hf7⟩ := g163
  refine V_lconst (v := lN 0) rfl (by decide) ?_
  refine V_lstore rfl (by decide) ?_
  refine V_iconst (v := nI 0) rfl (by decide) ?_
  refine V_istore rfl (by decide) ?_
  refine V_loop 4 (fun i lc G' => lc 0 = some (.ref 140) ∧ lc 1 = some (.int (nI e)) ∧ lc 4 = some (.int (nI n)) ∧ lc 5 = some (.long (lN (pb4 ob i))) ∧ lc 6 = some kmk ∧ lc 7 = some (.int (nI i)) ∧ G' = G) ?_ ?_ 0 _ _ (Nat.zero_le _) ⟨l0, l1, l4, rfl, rfl, rfl, rfl⟩
  · rintro i lc G' hi ⟨l0, l1, l4, l5, l6, l7, rfl⟩ ih
    have hbi := hob i
    refine V_iload rfl (by first | rfl | assumption) ?_
    refine V_iconst (v := nI 4) rfl (by decide) ?_
    refine V_icmp_geN rfl (by omega) (by decide) (fun h => absurd h (by omega)) (fun _ => ?_)
    refine V_ldc2 (v := lN 256) rfl kc_X12_319 ?_
    refine V_lload rfl (by first | rfl | assumption) (by first | rfl | assumption) ?_
    refine V_lmulN rfl ?_
    refine V_aload_n rfl (by first | rfl | assumption) ?_
    refine V_getf rfl rfl rfl (by repeat (first | exact hup_eq | assumption | refine Eq.trans (hup_ne (by first | assumption | exact Ne.symm (by assumption) | decide | omega)) ?_)) (by first | rfl | assumption) ?_
    refine V_iload rfl (by first | rfl | assumption) ?_
    refine V_baldB rfl (by repeat (first | exact hup_eq | assumption | refine Eq.trans (hup_ne (by first | assumption | exact Ne.symm (by assumption) | decide | omega)) ?_)) rfl (by first | omega | decide) (by first | omega | decide) ?_
    refine V_sipush (v := nI 255) rfl (by decide) ?_
    refine V_bandB rfl (by first | assumption | solve_by_elim | exact Nat.mod_lt _ (by decide) | omega) ?_
    refine V_i2lN rfl (by first | omega | decide) ?_
    refine V_laddN rfl ?_
    refine V_lstore rfl (by decide) ?_
    refine V_iincN (d := 1) rfl (by first | rfl | assumption) (by decide) (by decide) ?_
    refine V_goto rfl ?_
    exact ih _ _ ⟨l0, l1, l4, rfl, rfl, rfl, rfl⟩
  rintro lc G' ⟨l0, l1, l4, l5, l6, l7, rfl⟩
  have hb4 := hob 4
  have hp4 : pb4 ob 4 < 256 ^ 4 := pb4_lt hob 4
  have hbe : pb4 ob 4 = be4v (gD c) 0 := by
    rw [pb4_4]
    unfold be4v
    rw [hoc 0 (by omega), hoc (0 + 1) (by omega), hoc (0 + 2) (by omega), hoc (0 + 3) (by omega)]
  have ho4 : ob 4 = gD c 4 := hoc 4 (by omega)
  refine V_iload rfl (by first | rfl | assumption) ?_
  refine V_iconst (v := nI 4) rfl (by decide) ?_
  refine V_icmp_geN rfl (by decide) (by decide) (fun _ => ?_) (fun h => absurd (Nat.le_refl _) h)
  refine V_aload_n rfl (by first | rfl | assumption) ?_
  refine V_getf rfl rfl rfl (by repeat (first | exact hup_eq | assumption | refine Eq.trans (hup_ne (by first | assumption | exact Ne.symm (by assumption) | decide | omega)) ?_)) (by first | rfl | assumption) ?_
  refine V_iconst (v := nI 4) rfl (by decide) ?_
  refine V_baldB rfl (by repeat (first | exact hup_eq | assumption | refine Eq.trans (hup_ne (by first | assumption | exact Ne.symm (by assumption) | decide | omega)) ?_)) rfl (by first | omega | decide) (by first | omega | decide) ?_
  refine V_sipush (v := nI 255) rfl (by decide) ?_
  refine V_bandB rfl (by first | assumption | solve_by_elim | exact Nat.mod_lt _ (by decide) | omega) ?_
  refine V_istore rfl (by decide) ?_
  refine V_aload_n rfl (by first | rfl | assumption) ?_
  refine V_iload rfl (by first | rfl | assumption) ?_
  refine V_iconst (v := nI 5) rfl (by decide) ?_
  refine V_isubN rfl (by first | omega | decide) ?_
  refine V_iload rfl (by first | rfl | assumption) ?_
  refine V_isub rfl ?_
  obtain ⟨rs', hrs⟩ : ∃ rs', rs' = nI (n - 5) - nI (ob 4) := ⟨_, rfl⟩
  have hrz : rs'.toInt = (n : Int) - 5 - (ob 4 : Int) := by
    rw [hrs, Int32.toInt_sub, nI_toInt (by omega), nI_toInt (by omega)]
    have : ((n - 5 : Nat) : Int) = (n : Int) - 5 := by omega
    rw [this]
    exact Int.bmod_eq_of_le (by omega) (by omega)
  rw [← hrs]
  refine V_pf_rs rfl rfl rfl (by repeat (first | exact hup_eq | assumption | refine Eq.trans (hup_ne (by first | assumption | exact Ne.symm (by assumption) | decide | omega)) ?_)) ?_
  obtain ⟨G1, hG1⟩ : ∃ G1, G1 = hup G' 140 (MO th ta os hs ps rs') := ⟨_, rfl⟩
  rw [← hG1]
  have F1 : FP (fun j => j = 140 ∨ j = 180) G' G1 := by rw [hG1]; exact FP.rf.hup (Or.inl rfl)
  have k140 : G1.1 140 = some (MO th ta os hs ps rs') := by rw [hG1, hup_eq]
  have k180 : G1.1 180 = some (YA 240 rd0) := by rw [hG1]; exact (hup_ne (by decide)).trans g180
  have k181 : G1.1 181 = some (YA 260 ob) := by rw [hG1]; exact (hup_ne (by decide)).trans g181
  have k163 : G1.1 163 = some (ZA 2 f7) := by rw [hG1]; exact (hup_ne (by decide)).trans g163
  clear hG1
  have bad : ∀ lc : kLo, rdP made c = none → V K 0 0 mX12_unpack 317 lc [] G1 Q := fun lc z => by
    refine V_iconst (v := bI false) rfl (by decide) ?_
    exact V_zret rfl rfl (bI_01 _) (hq1 z G1 rs' F1 k140 ⟨rd0, k180, hrd0⟩)
  have r0 : ¬ c.length < 6 := by omega
  refine V_lload rfl (by first | rfl | assumption) (by first | rfl | assumption) ?_
  refine V_iload rfl (by first | rfl | assumption) ?_
  refine V_iconst (v := nI 4) rfl (by decide) ?_
  refine V_isubN rfl (by first | omega | decide) ?_
  refine V_i2lN rfl (by first | omega | decide) ?_
  refine V_lcmp rfl ?_
  refine V_if_neLN rfl (by omega) (by omega) (fun z => bad _ ?_) (fun z1 => ?_)
  · unfold rdP
    rw [if_neg r0, if_pos (by rw [hc, ← hbe]; exact z)]
  have r1 : ¬ be4v (gD c) 0 ≠ c.length - 4 := by rw [hc, ← hbe]; exact fun q => q z1
  refine V_aload_n rfl (by first | rfl | assumption) ?_
  refine V_getf rfl rfl rfl (by repeat (first | exact hup_eq | assumption | refine Eq.trans (hup_ne (by first | assumption | exact Ne.symm (by assumption) | decide | omega)) ?_)) (by first | rfl | assumption) ?_
  refine V_iconst (v := 1) rfl (by decide) ?_
  refine V_icmp_ltZ (b := 1) rfl hrz (by decide) (fun z => bad _ ?_) (fun z2 => ?_)
  · unfold rdP
    rw [if_neg r0, if_neg r1, if_pos (by omega)]
  have r2 : ¬ c.length < 6 + gD c 4 := by omega
  refine V_aload_n rfl (by first | rfl | assumption) ?_
  refine V_getf rfl rfl rfl (by repeat (first | exact hup_eq | assumption | refine Eq.trans (hup_ne (by first | assumption | exact Ne.symm (by assumption) | decide | omega)) ?_)) (by first | rfl | assumption) ?_
  refine V_sipush (v := 200) rfl (by decide) ?_
  refine V_icmp_gtZ (b := 200) rfl hrz (by decide) (fun z => bad _ ?_) (fun z3 => ?_)
  · unfold rdP
    rw [if_neg r0, if_neg r1, if_neg r2, if_pos (by omega)]
  have r3 : ¬ 200 < c.length - 5 - gD c 4 := by omega
  obtain ⟨r, hr⟩ : ∃ r, r = n - 5 - ob 4 := ⟨_, rfl⟩
  have hr2 : rs' = nI r := by
    apply Int32.toInt_inj.mp
    rw [hrz, nI_toInt (by omega)]
    omega
  rw [hr2] at k140
  have hrc : c.length - 5 - gD c 4 = r := by rw [hr, hc, ho4]
  refine V_iload rfl (by first | rfl | assumption) ?_
  refine V_aload_n rfl (by first | rfl | assumption) ?_
  refine V_getf rfl rfl rfl (by repeat (first | exact hup_eq | assumption | refine Eq.trans (hup_ne (by first | assumption | exact Ne.symm (by assumption) | decide | omega)) ?_)) (by first | rfl | assumption) ?_
  refine V_aload_n rfl (by first | rfl | assumption) ?_
  refine V_getf rfl rfl rfl (by repeat (first | exact hup_eq | assumption | refine Eq.trans (hup_ne (by first | assumption | exact Ne.symm (by assumption) | decide | omega)) ?_)) (by first | rfl | assumption) ?_
  refine V_iload_n rfl (by first | rfl | assumption) ?_
  refine V_zaldZ rfl (by repeat (first | exact hup_eq | assumption | refine Eq.trans (hup_ne (by first | assumption | exact Ne.symm (by assumption) | decide | omega)) ?_)) rfl (by first | omega | decide) (by first | omega | decide) ?_
  rw [hf7]
  refine V_callS (M' := mX12_zerosOf) (mc := 0) (ms := 0) (bc' := 0) (bs' := 0) rfl cw_X12_295 is_X12_zerosOf rfl (Nat.le_of_ble_eq_true rfl) ⟨Nat.le_of_ble_eq_true rfl, Nat.le_of_ble_eq_true rfl⟩ ⟨Nat.le_of_ble_eq_true rfl, Nat.le_of_ble_eq_true rfl⟩ (As := [.int (nI r), .int (bI made)]) (c_mzeros (Q := fun o G2 => o = .inl (some (.int (nI (zb r made)))) ∧ G2 = G1) (by omega) ⟨rfl, rfl⟩) (fun o G2 h => ?_) (fun E G' h => by cases h.1)
  obtain ⟨h, h9⟩ := h
  cases h
  rw [h9]
  clear h9
  have hzb := zb_lt r made
  refine V_icmp_eqN rfl (by omega) (by omega) (fun z4 => ?_) (fun z => ?_)
  rotate_left
  · have hb2 : rdP made c = none := by
      unfold rdP
      rw [if_neg r0, if_neg r1, if_neg r2, if_neg r3, if_pos (by rw [hrc, ← ho4]; exact z)]
    refine V_iconst (v := bI false) rfl (by decide) ?_
    exact V_zret rfl rfl (bI_01 _) (hq1 hb2 G1 _ F1 k140 ⟨rd0, k180, hrd0⟩)
  have r4 : ¬ gD c 4 ≠ zb (c.length - 5 - gD c 4) made := by rw [hrc, ← ho4]; exact fun q => q z4
  refine V_iconst (v := 1) rfl (by decide) ?_
  refine V_istore rfl (by decide) ?_
  refine V_iconst (v := nI 0) rfl (by decide) ?_
  refine V_istore rfl (by decide) ?_
  have LP := V_loop (K := K) (bc := 0) (bs := 0) (M := mX12_unpack) (head := 325) (Q := Q) (n - 5) (fun i lc G' => lc 0 = some (.ref 140) ∧ lc 4 = some (.int (nI n)) ∧ lc 8 = some (.int (bI (zrU c r i))) ∧ lc 9 = some (.int (nI i)) ∧ G' = hup G1 180 (YA 240 (ovw rd0 0 i (fun k => gD c (5 + k))))) ?_ ?_
  · exact LP 0 _ _ (Nat.zero_le _) ⟨l0, l4, rfl, rfl, by rw [ovw_0, hup_same k180]⟩
  · rintro i lc G2 hi ⟨l0, l4, l8, l9, rfl⟩ ih
    have hbi := hob (5 + i)
    have tl : ∀ b : Bool, b = zrU c r (i + 1) → V K 0 0 mX12_unpack 365 lc [.int (bI b)] (hup G1 180 (YA 240 (ovw rd0 0 i (fun k => gD c (5 + k))))) Q := by
      rintro b rfl
      refine V_istore rfl (by decide) ?_
      refine V_aload_n rfl (by first | rfl | assumption) ?_
      refine V_getf rfl rfl rfl (by repeat (first | exact hup_eq | assumption | refine Eq.trans (hup_ne (by first | assumption | exact Ne.symm (by assumption) | decide | omega)) ?_)) (by first | rfl | assumption) ?_
      refine V_iload rfl (by first | rfl | assumption) ?_
      refine V_aload_n rfl (by first | rfl | assumption) ?_
      refine V_getf rfl rfl rfl (by repeat (first | exact hup_eq | assumption | refine Eq.trans (hup_ne (by first | assumption | exact Ne.symm (by assumption) | decide | omega)) ?_)) (by first | rfl | assumption) ?_
      refine V_iconst (v := nI 5) rfl (by decide) ?_
      refine V_iload rfl (by first | rfl | assumption) ?_
      refine V_iaddN rfl ?_
      refine V_baldB rfl (by repeat (first | exact hup_eq | assumption | refine Eq.trans (hup_ne (by first | assumption | exact Ne.symm (by assumption) | decide | omega)) ?_)) rfl (by first | omega | decide) (by first | omega | decide) ?_
      refine V_bastB rfl (by repeat (first | exact hup_eq | assumption | refine Eq.trans (hup_ne (by first | assumption | exact Ne.symm (by assumption) | decide | omega)) ?_)) rfl (by first | omega | decide) (by first | omega | decide) (by first | assumption | solve_by_elim | exact Nat.mod_lt _ (by decide) | omega) ?_
      refine V_iincN (d := 1) rfl (by first | rfl | assumption) (by decide) (by decide) ?_
      refine V_goto rfl ?_
      have e9 := ovw_s' (o := rd0) (g := fun k => gD c (5 + k)) (a := 0) (i := i) (x := ob (5 + i)) (hoc _ (by omega))
      rw [Nat.zero_add] at e9
      rw [hup_hup, e9]
      exact ih _ _ ⟨l0, l4, rfl, rfl, rfl⟩
    refine V_iload rfl (by first | rfl | assumption) ?_
    refine V_iload rfl (by first | rfl | assumption) ?_
    refine V_iconst (v := nI 5) rfl (by decide) ?_
    refine V_isubN rfl (by first | omega | decide) ?_
    refine V_icmp_geN rfl (by omega) (by omega) (fun h => absurd h (by omega)) (fun _ => ?_)
    refine V_iload rfl (by assumption) ?_
    refine V_if_eqB rfl (fun z => ?_) (fun z => ?_)
    · refine V_iconst (v := bI false) rfl (by decide) ?_
      refine tl false ?_
      simp only [zrU]
      rw [z]; rfl
    · refine V_iload rfl (by first | rfl | assumption) ?_
      refine V_aload_n rfl (by first | rfl | assumption) ?_
      refine V_getf rfl rfl rfl (by repeat (first | exact hup_eq | assumption | refine Eq.trans (hup_ne (by first | assumption | exact Ne.symm (by assumption) | decide | omega)) ?_)) (by first | rfl | assumption) ?_
      refine V_icmp_ltN rfl (by omega) (by omega) (fun z2 => ?_) (fun z2 => ?_)
      · refine V_iconst (v := bI true) rfl (by decide) ?_
        refine V_goto rfl ?_
        refine tl true ?_
        simp only [zrU]
        rw [z, decide_eq_true z2]; rfl
      · refine V_aload_n rfl (by first | rfl | assumption) ?_
        refine V_getf rfl rfl rfl (by repeat (first | exact hup_eq | assumption | refine Eq.trans (hup_ne (by first | assumption | exact Ne.symm (by assumption) | decide | omega)) ?_)) (by first | rfl | assumption) ?_
        refine V_iconst (v := nI 5) rfl (by decide) ?_
        refine V_iload rfl (by first | rfl | assumption) ?_
        refine V_iaddN rfl ?_
        refine V_baldB rfl (by repeat (first | exact hup_eq | assumption | refine Eq.trans (hup_ne (by first | assumption | exact Ne.symm (by assumption) | decide | omega)) ?_)) rfl (by first | omega | decide) (by first | omega | decide) ?_
        refine V_if_ne rfl (fun z3 => ?_) (fun z3 => ?_)
        · refine V_iconst (v := bI false) rfl (by decide) ?_
          refine tl false ?_
          simp only [zrU]
          rw [decide_eq_false z2, decide_eq_false (p := gD c (5 + i) = 0) (fun q => z3 ((bB_z hbi).mpr ((hoc _ (by omega)).trans q))), Bool.or_false, Bool.and_false]
        · refine V_iconst (v := bI true) rfl (by decide) ?_
          refine V_goto rfl ?_
          refine tl true ?_
          simp only [zrU]
          rw [z, decide_eq_true (p := gD c (5 + i) = 0) ((hoc _ (by omega)).symm.trans ((bB_z hbi).mp z3)), Bool.or_true]
          rfl
  · rintro lc G2 ⟨l0, l4, l8, l9, rfl⟩
    have hcb : ∀ j, j < n - 5 → gD c (5 + j) < 256 := fun j hj => by rw [← hoc _ (by omega)]; exact hob _
    have hob2 : ∀ j, ovw rd0 0 (n - 5) (fun k => gD c (5 + k)) j < 256 := ovw_lt hrd0 hcb
    refine V_iload rfl (by first | rfl | assumption) ?_
    refine V_iload rfl (by first | rfl | assumption) ?_
    refine V_iconst (v := nI 5) rfl (by decide) ?_
    refine V_isubN rfl (by first | omega | decide) ?_
    refine V_icmp_geN rfl (by omega) (by omega) (fun _ => ?_) (fun h => absurd (Nat.le_refl _) h)
    refine V_iload rfl (by assumption) ?_
    have F9 : FP (fun j => j = 140 ∨ j = 180) G' (hup G1 180 (YA 240 (ovw rd0 0 (n - 5) (fun k => gD c (5 + k))))) := F1.hup (Or.inr rfl)
    have k140' : (hup G1 180 (YA 240 (ovw rd0 0 (n - 5) (fun k => gD c (5 + k))))).1 140 = some (MO th ta os hs ps (nI r)) := (hup_ne (by decide)).trans k140
    cases hz : zrU c r (n - 5) with
    | false =>
      have hb2 : rdP made c = none := by
        unfold rdP
        rw [if_neg r0, if_neg r1, if_neg r2, if_neg r3, if_neg r4, if_neg (fun q => ?_)]
        have : zrU c r (n - 5) = true := (zrU_iff (n - 5)).mpr (fun k hk hr => by
          have h9 := q (5 + k - (c.length - gD c 4)) (by omega)
          rw [show c.length - gD c 4 + (5 + k - (c.length - gD c 4)) = 5 + k by omega] at h9
          exact h9)
        rw [hz] at this
        cases this
      exact V_zret rfl rfl (bI_01 _) (hq1 hb2 _ _ F9 k140' ⟨_, hup_eq, hob2⟩)
    | true =>
      have hall := (zrU_iff (n - 5)).mp hz
      have hb2 : rdP made c = some ((c.drop 5).take r) := by
        unfold rdP
        rw [if_neg r0, if_neg r1, if_neg r2, if_neg r3, if_neg r4, if_pos (fun j hj => ?_), hrc]
        have h9 := hall (c.length - gD c 4 + j - 5) (by omega) (by omega)
        rw [show 5 + (c.length - gD c 4 + j - 5) = c.length - gD c 4 + j by omega] at h9
        exact h9
      have hpl : ((c.drop 5).take r).length = r := by rw [List.length_take, List.length_drop]; omega
      refine V_zret rfl rfl (bI_01 _) (hq2 _ hb2 _ F9 (by rw [hpl]; exact k140') ⟨_, hup_eq, hob2, ?_⟩)
      rw [hpl]
      have e1 : c = lst (gD c) n := by rw [← hc]; exact (lst_gD c).symm
      conv => rhs; rw [e1, lst_drop (by omega), lst_take (by omega)]
      exact lst_congr (fun j hj => by rw [ovw_at (Nat.zero_le _) (by omega)]; rfl)
end MUnp
