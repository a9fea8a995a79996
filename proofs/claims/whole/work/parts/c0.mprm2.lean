/-! the reference's constructor: its roots -/
section MPrm2
variable {K : kK} {G : kG} {Q : kO → kG → Prop} {th ta os hs ps rs : Int32}
abbrev PRC (j : Nat) : Prop := j = 145 ∨ j = 146 ∨ j = 182 ∨ j = 183
/-- trial division -/
theorem V_mcdiv {lc : kLo} {i k : Nat} (hi : i < 310) (hk : k < 64) (l0 : lc 0 = some (.ref 140)) (l1 : lc 1 = some (.int (nI k))) (l2 : lc 2 = some (.int (nI (i + 2))))
    (hq : ∀ lc' b, b = pmB (i + 2) i → lc' 0 = some (.ref 140) → lc' 1 = some (.int (nI k)) → lc' 2 = some (.int (nI (i + 2))) → V K 0 0 mX12_init 413 lc' [.int (bI b)] G Q) : V K 0 0 mX12_init 378 lc [] G Q := by
  refine V_iconst (v := bI true) rfl (by decide) ?_
  refine V_istore_n rfl (by decide) ?_
  refine V_iconst (v := nI 2) rfl (by decide) ?_
  refine V_istore rfl (by decide) ?_
  refine V_loop i (fun m lc G2 => G2 = G ∧ lc 0 = some (.ref 140) ∧ lc 1 = some (.int (nI k)) ∧ lc 2 = some (.int (nI (i + 2))) ∧ lc 3 = some (.int (bI (pmB (i + 2) m))) ∧ lc 4 = some (.int (nI (m + 2)))) ?_ ?_ 0 _ _ (Nat.zero_le _) ⟨rfl, l0, l1, l2, rfl, rfl⟩
  · clear l0 l1 l2 lc
    rintro m lc G2 hm ⟨rfl, l0, l1, l2, l3, l4⟩ ih2
    have tl : ∀ b, b = pmB (i + 2) (m + 1) → V K 0 0 mX12_init 405 lc [.int (bI b)] G2 Q := fun b hb => by
      refine V_istore_n rfl (by decide) ?_
      refine V_iincN (d := 1) rfl (by first | rfl | assumption) (by decide) (by decide) ?_
      refine V_goto rfl ?_
      exact ih2 _ _ ⟨rfl, l0, l1, l2, by rw [← hb]; rfl, by rw [show m + 1 + 2 = m + 2 + 1 by omega]; rfl⟩
    refine V_iload rfl (by first | rfl | assumption) ?_
    refine V_iload_n rfl (by first | rfl | assumption) ?_
    refine V_icmp_geN rfl (by omega) (by omega) (fun z => absurd z (by omega)) (fun _ => ?_)
    refine V_iload_n rfl (by first | rfl | assumption) ?_
    refine V_if_eqB rfl (fun z => ?_) (fun z => ?_)
    · refine V_iconst (v := bI false) rfl (by decide) ?_
      exact tl false (by show _ = (pmB (i + 2) m && _); rw [z]; rfl)
    · refine V_iload_n rfl (by first | rfl | assumption) ?_
      refine V_iload rfl (by first | rfl | assumption) ?_
      refine V_iremN rfl (by omega) (by omega) (by omega) ?_
      have hr : (i + 2) % (m + 2) < 2 ^ 31 := Nat.lt_of_le_of_lt (Nat.mod_le _ _) (by omega)
      refine V_if_eqN rfl hr (fun z2 => ?_) (fun z2 => ?_)
      · refine V_iconst (v := bI false) rfl (by decide) ?_
        exact tl false (by show _ = (_ && !decide ((i + 2) % (m + 2) = 0)); rw [decide_eq_true z2]; exact (Bool.and_false _).symm)
      · refine V_iconst (v := bI true) rfl (by decide) ?_
        refine V_goto rfl ?_
        exact tl true (by show _ = (pmB (i + 2) m && !decide ((i + 2) % (m + 2) = 0)); rw [z, decide_eq_false z2]; rfl)
  · clear l0 l1 l2 lc
    rintro lc G2 ⟨rfl, l0, l1, l2, l3, l4⟩
    obtain ⟨b, hb⟩ : ∃ b, b = pmB (i + 2) i := ⟨_, rfl⟩
    rw [← hb] at l3
    refine V_iload rfl (by first | rfl | assumption) ?_
    refine V_iload_n rfl (by first | rfl | assumption) ?_
    refine V_icmp_geN rfl (by omega) (by omega) (fun _ => ?_) (fun z => absurd (by omega) z)
    refine V_iload_n rfl (by first | rfl | assumption) ?_
    exact hq _ b hb l0 l1 l2
/-- the roots of one prime -/
theorem V_mcrt {lc : kLo} {n k : Nat} {f g : Nat → Nat} (hn : n < 400) (hk : k < 64) (l0 : lc 0 = some (.ref 140)) (l1 : lc 1 = some (.int (nI k))) (l2 : lc 2 = some (.int (nI n))) (g140 : G.1 140 = some (MO th ta os hs ps rs)) (ha : aRt G) (g145 : G.1 145 = some (BA 8 f)) (g146 : G.1 146 = some (BA 64 g)) {r2 r3 : Nat} (h2 : rtF n 2 37 0 = r2) (h3 : rtF n 3 37 0 = r3)
    (hq : ∀ lc' G' f', FP PRC G G' → aRt G' → G'.1 145 = some (BA 8 f') → (∀ j, j < 8 → f' j = if j = k then r2 else f j) → G'.1 146 = some (BA 64 (updN g k r3)) → lc' 0 = some (.ref 140) → lc' 1 = some (.int (nI (k + 1))) → lc' 2 = some (.int (nI n)) → V K 0 0 mX12_init 449 lc' [] G' Q) : V K 0 0 mX12_init 416 lc [] G Q := by
  refine V_aload_n rfl (by first | rfl | assumption) ?_
  refine V_getf rfl rfl rfl (by repeat (first | exact hup_eq | assumption | refine Eq.trans (hup_ne (by first | assumption | exact Ne.symm (by assumption) | decide | omega)) ?_)) (by first | rfl | assumption) ?_
  refine V_iload_n rfl (by first | rfl | assumption) ?_
  refine V_aload_n rfl (by first | rfl | assumption) ?_
  refine V_iload_n rfl (by first | rfl | assumption) ?_
  refine V_iconst (v := nI 3) rfl (by decide) ?_
  refine V_callV (M' := mX12_rootOf) (mc := 0) (ms := 0) (bc' := 0) (bs' := 0) rfl cw_X12_142 iv_X12_rootOf (by repeat (first | exact hup_eq | assumption | refine Eq.trans (hup_ne (by first | assumption | exact Ne.symm (by assumption) | decide | omega)) ?_)) rfl rfl (Nat.le_of_ble_eq_true rfl) ⟨Nat.le_of_ble_eq_true rfl, Nat.le_of_ble_eq_true rfl⟩ ⟨Nat.le_of_ble_eq_true rfl, Nat.le_of_ble_eq_true rfl⟩ (As := [.int (nI n), .int (nI 3)]) (c_mrootOf (Q := fun o G1 => FP PR G G1 ∧ aRt G1 ∧ o = .inl (some (.int (nI r3)))) (Or.inr rfl) (by omega) g140 ha (fun G1 q0 q1 => ⟨q0, q1, by rw [h3]⟩)) (fun o G1 h => ?_) (fun E G' h => by cases h.2.2)
  obtain ⟨F1, a1, h0⟩ := h
  cases h0
  have k145 := F1.get (by decide) g145
  have k146 := F1.get (by decide) g146
  have k140 := F1.get (by decide) g140
  refine V_iastN rfl (by repeat (first | exact hup_eq | assumption | refine Eq.trans (hup_ne (by first | assumption | exact Ne.symm (by assumption) | decide | omega)) ?_)) rfl (by omega) (by omega) ?_
  have F1' : FP PRC G (hup G1 146 (BA 64 (updN g k r3))) := FP.hup (F1.sub (fun x hx => by rcases hx with h | h <;> simp [PRC, h])) (by simp [PRC])
  have a1' : aRt (hup G1 146 (BA 64 (updN g k r3))) := ⟨a1.1.imp (fun f h => (hup_ne (by decide)).trans h), a1.2.imp (fun f h => (hup_ne (by decide)).trans h)⟩
  have j145 : (hup G1 146 (BA 64 (updN g k r3))).1 145 = some (BA 8 f) := (hup_ne (by decide)).trans k145
  have j140 : (hup G1 146 (BA 64 (updN g k r3))).1 140 = some (MO th ta os hs ps rs) := (hup_ne (by decide)).trans k140
  have j146 : (hup G1 146 (BA 64 (updN g k r3))).1 146 = some (BA 64 (updN g k r3)) := hup_eq
  generalize hup G1 146 (BA 64 (updN g k r3)) = G2 at F1' a1' j145 j140 j146 ⊢
  refine V_iload_n rfl (by first | rfl | assumption) ?_
  refine V_bipush (v := nI 8) rfl (by decide) ?_
  refine V_icmp_geN rfl (by omega) (by omega) (fun z => ?_) (fun z => ?_)
  · refine V_iincN (d := 1) rfl (by first | rfl | assumption) (by decide) (by decide) ?_
    exact hq _ G2 f F1' a1' j145 (fun j hj => by rw [if_neg (by omega)]) j146 l0 rfl l2
  · refine V_aload_n rfl (by first | rfl | assumption) ?_
    refine V_getf rfl rfl rfl (by repeat (first | exact hup_eq | assumption | refine Eq.trans (hup_ne (by first | assumption | exact Ne.symm (by assumption) | decide | omega)) ?_)) (by first | rfl | assumption) ?_
    refine V_iload_n rfl (by first | rfl | assumption) ?_
    refine V_aload_n rfl (by first | rfl | assumption) ?_
    refine V_iload_n rfl (by first | rfl | assumption) ?_
    refine V_iconst (v := nI 2) rfl (by decide) ?_
    refine V_callV (M' := mX12_rootOf) (mc := 0) (ms := 0) (bc' := 0) (bs' := 0) rfl cw_X12_142 iv_X12_rootOf (by repeat (first | exact hup_eq | assumption | refine Eq.trans (hup_ne (by first | assumption | exact Ne.symm (by assumption) | decide | omega)) ?_)) rfl rfl (Nat.le_of_ble_eq_true rfl) ⟨Nat.le_of_ble_eq_true rfl, Nat.le_of_ble_eq_true rfl⟩ ⟨Nat.le_of_ble_eq_true rfl, Nat.le_of_ble_eq_true rfl⟩ (As := [.int (nI n), .int (nI 2)]) (c_mrootOf (Q := fun o G1 => FP PR G2 G1 ∧ aRt G1 ∧ o = .inl (some (.int (nI r2)))) (Or.inl rfl) (by omega) j140 a1' (fun G1 q0 q1 => ⟨q0, q1, by rw [h2]⟩)) (fun o G3 h => ?_) (fun E G' h => by cases h.2.2)
    obtain ⟨F3, a3, h0⟩ := h
    cases h0
    have m145 := F3.get (by decide) j145
    have m146 := F3.get (by decide) j146
    refine V_iastN rfl (by repeat (first | exact hup_eq | assumption | refine Eq.trans (hup_ne (by first | assumption | exact Ne.symm (by assumption) | decide | omega)) ?_)) rfl (by omega) (by omega) ?_
    have F4 : FP PRC G (hup G3 145 (BA 8 (updN f k r2))) := FP.hup (F1'.trans F3 (fun x hx => by rcases hx with h | h <;> simp [PRC, h])) (by simp [PRC])
    refine V_iincN (d := 1) rfl (by first | rfl | assumption) (by decide) (by decide) ?_
    exact hq _ _ (updN f k r2) F4 ⟨a3.1.imp (fun f h => (hup_ne (by decide)).trans h), a3.2.imp (fun f h => (hup_ne (by decide)).trans h)⟩ hup_eq (fun j hj => rfl) ((hup_ne (by decide)).trans m146) l0 rfl l2
theorem V_mc3 {lc : kLo} {r2 r3 : Nat → Nat} {N : Nat} (hN : N = 310) (h2 : ∀ n, rtF n 2 37 0 = r2 n) (h3 : ∀ n, rtF n 3 37 0 = r3 n) (l0 : lc 0 = some (.ref 140)) (l1 : lc 1 = some (.int (nI 0))) (l2 : lc 2 = some (.int (nI 2))) (g140 : G.1 140 = some (MO th ta os hs ps rs)) (ha : aRt G) (g145 : ∃ f, G.1 145 = some (BA 8 f)) (g146 : ∃ f, G.1 146 = some (BA 64 f)) (hq : ∀ G' f g, FP PRC G G' → aRt G' → G'.1 145 = some (BA 8 f) → (∀ j, j < 8 → f j = r2 (gD p64 j)) → G'.1 146 = some (BA 64 g) → (∀ j, j < 64 → g j = r3 (gD p64 j)) → Q (.inl none) G') : V K 0 0 mX12_init 372 lc [] G Q := by
  refine V_loop N (fun i lc G1 => ∃ k, k = pcn i ∧ lc 0 = some (.ref 140) ∧ lc 1 = some (.int (nI k)) ∧ lc 2 = some (.int (nI (i + 2))) ∧ FP PRC G G1 ∧ aRt G1 ∧ (∃ f, G1.1 145 = some (BA 8 f) ∧ ∀ j, j < 8 → j < k → f j = r2 (gD p64 j)) ∧ (∃ f, G1.1 146 = some (BA 64 f) ∧ ∀ j, j < k → f j = r3 (gD p64 j))) ?_ ?_ 0 _ _ (Nat.zero_le _) ⟨0, pc_0.symm, l0, l1, l2, FP.rf, ha, g145.elim (fun f h => ⟨f, h, fun j _ hj => absurd hj (Nat.not_lt_zero j)⟩), g146.elim (fun f h => ⟨f, h, fun j hj => absurd hj (Nat.not_lt_zero j)⟩)⟩
  · clear l0 l1 l2 lc g145 g146 ha
    rintro i lc G1 hi ⟨k, hke, l0, l1, l2, F1, ha, ⟨f, g145, hf⟩, ⟨g, g146, hg⟩⟩ ih
    have k140 := F1.get (by decide) g140
    rw [hN] at hi
    have hk := pc_lt hi
    have hpt := pc_t hi
    have hpf := pc_f hi
    rw [← hke] at hk hpt hpf
    obtain ⟨P, hP⟩ : ∃ P, P = p64 := ⟨_, rfl⟩
    rw [← hP] at ih hf hg hpt
    obtain ⟨k2, hk2⟩ : ∃ k, k = pcn (i + 1) := ⟨_, rfl⟩
    rw [← hk2] at hpt hpf
    replace ih : ∀ lc G1, lc 0 = some (.ref 140) → lc 1 = some (.int (nI k2)) → lc 2 = some (.int (nI (i + 1 + 2))) → FP PRC G G1 → aRt G1 → (∃ f, G1.1 145 = some (BA 8 f) ∧ ∀ j, j < 8 → j < k2 → f j = r2 (gD P j)) → (∃ f, G1.1 146 = some (BA 64 f) ∧ ∀ j, j < k2 → f j = r3 (gD P j)) → V K 0 0 mX12_init 372 lc [] G1 Q := fun lc G1 a b c d e f g => ih lc G1 ⟨k2, hk2, a, b, c, d, e, f, g⟩
    clear hke hk2 hP
    refine V_iload_n rfl (by first | rfl | assumption) ?_
    refine V_bipush (v := nI 64) rfl (by decide) ?_
    refine V_icmp_geN rfl (by omega) (by omega) (fun z => absurd z (by omega)) (fun _ => ?_)
    refine V_mcdiv hi hk l0 l1 l2 ?_
    clear l0 l1 l2 lc
    intro lc b hb l0 l1 l2
    rw [← hb] at hpt hpf
    clear hb
    refine V_if_eqB rfl (fun z => ?_) (fun z => ?_)
    · have e := hpf z
      subst e
      refine V_iincN (d := 1) rfl (by first | rfl | assumption) (by decide) (by decide) ?_
      refine V_goto rfl ?_
      exact ih _ _ l0 l1 (by rw [show i + 1 + 2 = i + 2 + 1 by omega]; rfl) F1 ha ⟨f, g145, hf⟩ ⟨g, g146, hg⟩
    · obtain ⟨e, e2⟩ := hpt z
      subst e
      refine V_mcrt (by omega) hk l0 l1 l2 k140 ha g145 g146 (h2 _) (h3 _) ?_
      clear l0 l1 l2 lc
      intro lc G' f' F2 ha2 q145 hf' q146 l0 l1 l2
      refine V_iincN (d := 1) rfl (by first | rfl | assumption) (by decide) (by decide) ?_
      refine V_goto rfl ?_
      refine ih _ _ l0 l1 (by rw [show i + 1 + 2 = i + 2 + 1 by omega]; rfl) (F1.trans F2 (fun _ h => h)) ha2 ⟨f', q145, fun j hj hj2 => ?_⟩ ⟨_, q146, fun j hj => ?_⟩
      · rw [hf' j hj]
        by_cases zz : j = k
        · rw [if_pos zz, zz, e2]
        · rw [if_neg zz]; exact hf j hj (by omega)
      · unfold updN
        by_cases zz : j = k
        · rw [if_pos zz, zz, e2]
        · rw [if_neg zz]; exact hg j (by omega)
  · rintro lc G1 ⟨k, hke, l0, l1, l2, F1, ha, ⟨f, g145, hf⟩, ⟨g, g146, hg⟩⟩
    rw [hN, pc_e] at hke
    subst hke
    refine V_iload_n rfl (by first | rfl | assumption) ?_
    refine V_bipush (v := nI 64) rfl (by decide) ?_
    refine V_icmp_geN rfl (by omega) (by omega) (fun _ => ?_) (fun z => absurd (by omega) z)
    exact V_vret rfl rfl (hq _ f g F1 ha g145 (fun j hj => hf j hj (by omega)) g146 hg)
end MPrm2
