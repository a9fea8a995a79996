section MPt3
variable {K : kK} {G : kG} {Q : kO → kG → Prop} {th ta os hs ps rs : Int32}
/-- the last stretch: the number is written out -/
theorem V_mptout {tc ta9 Nt V0 : Nat} {o : Nat → Nat} {D : Nat → Nat} {lc : kLo} (g140 : G.1 140 = some (MO th ta os hs ps rs)) (g143 : G.1 143 = some (LA 340 D)) (gt9 : G.1 tc = some (YA Nt o)) (htc : tc ≠ 143 ∧ tc ≠ 140) (hNt : ta9 + 32 ≤ Nt ∧ Nt < 2 ^ 20) (hd : ∀ k, k < 17 → D (17 * 1 + k) < 2 ^ 15) (hv : vs (2 ^ 15) (fun k => D (17 * 1 + k)) 17 = V0) (l0 : lc 0 = some (.ref 140)) (l5 : lc 5 = some (.ref tc)) (l6 : lc 6 = some (.int (nI ta9)))
    (hq : Q (.inl none) (hup G tc (YA Nt (ovw o ta9 32 (fun j => V0 / 256 ^ j % 256))))) : V K 0 0 mX12_pointTimes 383 lc [] G Q := by
  have hV : V0 < 2 ^ 255 := by
    have := vs_lt (B := 2 ^ 15) (n := 17) (v := fun k => D (17 * 1 + k)) (by decide) hd
    rw [hv] at this
    exact this
  obtain ⟨t1, t2⟩ := htc
  refine V_iconst (v := nI 0) rfl (by decide) ?_
  refine V_istore rfl (by decide) ?_
  refine V_loop 32 (fun i lc G' => lc 0 = some (.ref 140) ∧ lc 5 = some (.ref tc) ∧ lc 6 = some (.int (nI ta9)) ∧ lc 7 = some (.int (nI i)) ∧ G' = hup G tc (YA Nt (ovw o ta9 i (fun _ => 0)))) ?_ ?_ 0 _ _ (Nat.zero_le _) ⟨l0, l5, l6, rfl, by rw [ovw_0, hup_same gt9]⟩
  · rintro i lc G' hi ⟨l0, l5, l6, l7, rfl⟩ ih
    refine V_iload rfl (by first | rfl | assumption) ?_
    refine V_bipush (v := nI 32) rfl (by decide) ?_
    refine V_icmp_geN rfl (by omega) (by decide) (fun h => absurd h (by omega)) (fun _ => ?_)
    refine V_aload rfl (by first | rfl | assumption) ?_
    refine V_iload rfl (by first | rfl | assumption) ?_
    refine V_iload rfl (by first | rfl | assumption) ?_
    refine V_iaddN rfl ?_
    refine V_iconst (v := nI 0) rfl (by decide) ?_
    refine V_bastN rfl (by repeat (first | exact hup_eq | assumption | refine Eq.trans (hup_ne (by first | assumption | exact Ne.symm (by assumption) | decide | omega)) ?_)) rfl (by first | omega | decide) (by first | omega | decide) ?_
    refine V_iincN (d := 1) rfl (by first | rfl | assumption) (by decide) (by decide) ?_
    refine V_goto rfl ?_
    rw [hup_hup, ovw_s' (g := fun _ => 0) (by rfl)]
    exact ih _ _ ⟨l0, l5, l6, rfl, rfl⟩
  rintro lc G' ⟨l0, l5, l6, l7, rfl⟩
  refine V_iload rfl (by first | rfl | assumption) ?_
  refine V_bipush (v := nI 32) rfl (by decide) ?_
  refine V_icmp_geN rfl (by decide) (by decide) (fun _ => ?_) (fun h => absurd (Nat.le_refl _) h)
  refine V_iconst (v := nI 0) rfl (by decide) ?_
  refine V_istore rfl (by decide) ?_
  refine V_loop 255 (fun i lc G' => lc 0 = some (.ref 140) ∧ lc 5 = some (.ref tc) ∧ lc 6 = some (.int (nI ta9)) ∧ lc 7 = some (.int (nI i)) ∧ G' = hup G tc (YA Nt (ovw o ta9 32 (dgt 8 V0 i)))) ?_ ?_ 0 _ _ (Nat.zero_le _) ⟨l0, l5, l6, rfl, by rw [show dgt 8 V0 0 = fun _ => 0 from funext (fun k => dgt_0 8 V0 k)]⟩
  · rintro i lc G' hi ⟨l0, l5, l6, l7, rfl⟩ ih
    have hb : D (17 + i / 15) < 2 ^ 15 := hd (i / 15) (by omega)
    have hbit : D (17 + i / 15) / 2 ^ (i % 15) % 2 = V0 / 2 ^ i % 2 := by
      rw [← hv]
      exact dig_bit (w := 15) (N := 17) (o := fun k => D (17 * 1 + k)) (by decide) hd (by omega)
    refine V_iload rfl (by first | rfl | assumption) ?_
    refine V_sipush (v := nI 255) rfl (by decide) ?_
    refine V_icmp_geN rfl (by omega) (by decide) (fun h => absurd h (by omega)) (fun _ => ?_)
    refine V_aload_n rfl (by first | rfl | assumption) ?_
    refine V_getf rfl rfl rfl (by repeat (first | exact hup_eq | assumption | refine Eq.trans (hup_ne (by first | assumption | exact Ne.symm (by assumption) | decide | omega)) ?_)) (by first | rfl | assumption) ?_
    refine V_bipush (v := nI 17) rfl (by decide) ?_
    refine V_iload rfl (by first | rfl | assumption) ?_
    refine V_bipush (v := nI 15) rfl (by decide) ?_
    refine V_idivN rfl (by first | omega | decide) (by first | omega | decide) (by first | omega | decide) ?_
    refine V_iaddN rfl ?_
    refine V_laldN rfl (by repeat (first | exact hup_eq | assumption | refine Eq.trans (hup_ne (by first | assumption | exact Ne.symm (by assumption) | decide | omega)) ?_)) rfl (by first | omega | decide) (by first | omega | decide) ?_
    refine V_iload rfl (by first | rfl | assumption) ?_
    refine V_bipush (v := nI 15) rfl (by decide) ?_
    refine V_iremN rfl (by first | omega | decide) (by first | omega | decide) (by first | omega | decide) ?_
    refine V_lshrN' rfl (by first | omega | decide) (by first | omega | decide) ?_
    refine V_lconst (v := lN 1) rfl (by decide) ?_
    refine V_landN 1 rfl (by decide) (by decide) (by have : D (17 + i / 15) / 2 ^ (i % 15) ≤ D (17 + i / 15) := Nat.div_le_self _ _; omega) ?_
    rw [show D (17 + i / 15) / 2 ^ (i % 15) % 2 ^ 1 = V0 / 2 ^ i % 2 from hbit]
    refine V_l2iN rfl ?_
    refine V_istore rfl (by decide) ?_
    refine V_aload rfl (by first | rfl | assumption) ?_
    refine V_iload rfl (by first | rfl | assumption) ?_
    refine V_iload rfl (by first | rfl | assumption) ?_
    refine V_bipush (v := nI 8) rfl (by decide) ?_
    refine V_idivN rfl (by first | omega | decide) (by first | omega | decide) (by first | omega | decide) ?_
    refine V_iaddN rfl ?_
    refine V_aload rfl (by first | rfl | assumption) ?_
    refine V_iload rfl (by first | rfl | assumption) ?_
    refine V_iload rfl (by first | rfl | assumption) ?_
    refine V_bipush (v := nI 8) rfl (by decide) ?_
    refine V_idivN rfl (by first | omega | decide) (by first | omega | decide) (by first | omega | decide) ?_
    refine V_iaddN rfl ?_
    refine V_baldB rfl (by repeat (first | exact hup_eq | assumption | refine Eq.trans (hup_ne (by first | assumption | exact Ne.symm (by assumption) | decide | omega)) ?_)) rfl (by first | omega | decide) (by first | omega | decide) ?_
    refine V_iload rfl (by first | rfl | assumption) ?_
    refine V_iload rfl (by first | rfl | assumption) ?_
    refine V_bipush (v := nI 8) rfl (by decide) ?_
    refine V_iremN rfl (by first | omega | decide) (by first | omega | decide) (by first | omega | decide) ?_
    refine V_ishl rfl ?_
    rw [show ovw o ta9 32 (dgt 8 V0 i) (ta9 + i / 8) = dgt 8 V0 i (i / 8) from ovw_in (by omega)]
    refine V_ior rfl ?_
    refine V_i2b rfl ?_
    refine V_bastM rfl (by repeat (first | exact hup_eq | assumption | refine Eq.trans (hup_ne (by first | assumption | exact Ne.symm (by assumption) | decide | omega)) ?_)) rfl (by omega) (by omega) ?_
    have hb2 : V0 / 2 ^ i % 2 < 2 := Nat.mod_lt _ (by decide)
    have hr : dgt 8 V0 i (i / 8) < 2 ^ (i % 8) := dgt_room
    have hl : dgt 8 V0 i (i / 8) < 2 ^ 8 := dgt_lt 8 V0 i (i / 8)
    rw [lw_8, bit_or1 (by omega) hb2, Nat.mod_eq_of_lt hl, or_p hr, hup_hup]
    refine V_iincN (d := 1) rfl (by assumption) (by decide) (by decide) ?_
    refine V_goto rfl ?_
    have hs9 : updN (ovw o ta9 32 (dgt 8 V0 i)) (ta9 + i / 8) (dgt 8 V0 i (i / 8) + V0 / 2 ^ i % 2 * 2 ^ (i % 8)) = ovw o ta9 32 (dgt 8 V0 (i + 1)) := by
      funext j
      by_cases e : j = ta9 + i / 8
      · subst e
        rw [updN_eq, ovw_in (by omega), dgt_s (by decide), if_pos rfl]
      · rw [updN_ne e]
        unfold ovw
        split
        · rw [dgt_s (by decide), if_neg (by omega)]
        · rfl
    rw [hs9]
    exact ih _ _ ⟨l0, l5, l6, rfl, rfl⟩
  · rintro lc G' ⟨l0, l5, l6, l7, rfl⟩
    refine V_iload rfl (by first | rfl | assumption) ?_
    refine V_sipush (v := nI 255) rfl (by decide) ?_
    refine V_icmp_geN rfl (by decide) (by decide) (fun _ => ?_) (fun h => absurd (Nat.le_refl _) h)
    refine V_vret rfl rfl ?_
    rw [show dgt 8 V0 255 = fun j => V0 / 256 ^ j % 256 from funext (fun j => by unfold dgt; rw [Nat.mod_eq_of_lt hV, Nat.pow_mul])]
    exact hq
/-- from the ladder's end on -/
theorem V_mptinv {tc ta9 Nt X2 Z2 : Nat} {o : Nat → Nat} {D : Nat → Nat} {lc : kLo} (g140 : G.1 140 = some (MO th ta os hs ps rs)) (hc : crM D G) (h1 : dH D 1 X2) (h2 : dH D 2 Z2) (gt9 : G.1 tc = some (YA Nt o)) (htc : tc ≠ 143 ∧ tc ≠ 144 ∧ tc ≠ 140) (hNt : ta9 + 32 ≤ Nt ∧ Nt < 2 ^ 20) (l0 : lc 0 = some (.ref 140)) (l5 : lc 5 = some (.ref tc)) (l6 : lc 6 = some (.int (nI ta9)))
    (hq : ∀ G', FP P34 G G' → (∃ D, crM D G') → Q (.inl none) (hup G' tc (YA Nt (ovw o ta9 32 (fun j => mulP X2 (ivP Z2 254) / 256 ^ j % 256))))) : V K 0 0 mX12_pointTimes 323 lc [] G Q := by
  obtain ⟨t1, t3, t2⟩ := htc
  refine V_aload_n rfl (by first | rfl | assumption) ?_
  refine V_iconst (v := nI 5) rfl (by decide) ?_
  refine V_iconst (v := nI 1) rfl (by decide) ?_
  refine V_callV (M' := mX12_putSmall) (mc := 0) (ms := 0) (bc' := 0) (bs' := 0) rfl cw_X12_170 iv_X12_putSmall (by repeat (first | exact hup_eq | assumption | refine Eq.trans (hup_ne (by first | assumption | exact Ne.symm (by assumption) | decide | omega)) ?_)) rfl rfl (Nat.le_of_ble_eq_true rfl) ⟨Nat.le_of_ble_eq_true rfl, Nat.le_of_ble_eq_true rfl⟩ ⟨Nat.le_of_ble_eq_true rfl, Nat.le_of_ble_eq_true rfl⟩ (As := [.int (nI 5), .int (nI 1)]) (c_mputSmall (Q := fun o G1 => o = .inl none ∧ G1 = hup G 143 (LA 340 (ovw D (17 * 5) 17 (smf 1)))) g140 hc.1 (by decide) (by decide) ⟨rfl, rfl⟩) (fun o G1 h => ?_) (fun E G' h => by cases h.1)
  obtain ⟨h, rfl⟩ := h
  cases h
  have k1 : dH (ovw D (17 * 5) 17 (smf 1)) 1 X2 := h1.keep dO_ovw (by decide)
  have k2 : dH (ovw D (17 * 5) 17 (smf 1)) 2 Z2 := h2.keep dO_ovw (by decide)
  have k5 : dH (ovw D (17 * 5) 17 (smf 1)) 5 1 := dsm_ok (by decide)
  refine V_sipush (v := nI 254) rfl (by decide) ?_
  refine V_istore rfl (by decide) ?_
  refine V_loop 255 (fun n lc G' => lc 0 = some (.ref 140) ∧ lc 5 = some (.ref tc) ∧ lc 6 = some (.int (nI ta9)) ∧ lc 7 = some (.int (cnt 254 n)) ∧ ∃ D', FP P34 G G' ∧ crM D' G' ∧ dH D' 1 X2 ∧ dH D' 2 Z2 ∧ dH D' 5 (if n = 0 then 1 else ivP Z2 (n - 1))) ?_ ?_ 0 _ _ (Nat.zero_le _) ⟨l0, l5, l6, rfl, _, FP.rf.hup (Or.inl rfl), hc.up, k1, k2, k5⟩
  · rintro n lc G' hn ⟨l0, l5, l6, l7, D', F, hc, h1, h2, h5⟩ ih
    have hcn : cnt 254 n = nI (254 - n) := by unfold cnt; rw [if_pos (by omega)]
    have g140 := F.get (by decide) g140
    refine V_iload rfl (by first | rfl | assumption) ?_
    refine V_if_lt rfl (fun h => absurd h (by rw [hcn]; exact nI_pos (by omega))) (fun _ => ?_)
    refine V_aload_n rfl (by first | rfl | assumption) ?_
    refine V_iconst (v := nI 5) rfl (by decide) ?_
    refine V_iconst (v := nI 5) rfl (by decide) ?_
    refine V_iconst (v := nI 5) rfl (by decide) ?_
    refine V_callV (M' := mX12_times) (mc := 0) (ms := 0) (bc' := 0) (bs' := 0) rfl cw_X12_196 iv_X12_times (by repeat (first | exact hup_eq | assumption | refine Eq.trans (hup_ne (by first | assumption | exact Ne.symm (by assumption) | decide | omega)) ?_)) rfl rfl (Nat.le_of_ble_eq_true rfl) ⟨Nat.le_of_ble_eq_true rfl, Nat.le_of_ble_eq_true rfl⟩ ⟨Nat.le_of_ble_eq_true rfl, Nat.le_of_ble_eq_true rfl⟩ (As := [.int (nI 5), .int (nI 5), .int (nI 5)]) (c_mtimes (Q := fun o G2 => o = .inl none ∧ ∃ D2, FP P34 G' G2 ∧ crM D2 G2 ∧ dO 5 D' D2 ∧ dH D2 5 (mulP (if n = 0 then 1 else ivP Z2 (n - 1)) (if n = 0 then 1 else ivP Z2 (n - 1)))) g140 hc (by decide) (by decide) (by decide) h5 h5 (fun G9 D9 q1 q2 q3 q4 => ⟨rfl, D9, q1, q2, q3, q4⟩)) (fun o G2 h => ?_) (fun E G' h => by cases h.1)
    obtain ⟨h, D2, F2, hc2, ho, k5⟩ := h
    cases h
    have k1 := h1.keep ho (by decide)
    have k2 := h2.keep ho (by decide)
    have g140 := F2.get (by decide) g140
    have fin : ∀ (lc : kLo) (G3 : kG) (D3 : Nat → Nat), lc 0 = some (.ref 140) → lc 5 = some (.ref tc) → lc 6 = some (.int (nI ta9)) → lc 7 = some (.int (cnt 254 n)) → FP P34 G G3 → crM D3 G3 → dH D3 1 X2 → dH D3 2 Z2 → dH D3 5 (ivP Z2 n) → V K 0 0 mX12_pointTimes 365 lc [] G3 Q := by
      intro lc G3 D3 l0 l5 l6 l7 q1 q2 q3 q4 q5
      refine V_iinc (v := cnt 254 (n + 1)) rfl (by assumption) (cnt_s (by omega)) (by decide) ?_
      refine V_goto rfl ?_
      exact ih _ _ ⟨l0, l5, l6, rfl, D3, q1, q2, q3, q4, by rw [if_neg (by omega)]; exact q5⟩
    refine V_iload rfl (by assumption) ?_
    refine V_iconst (v := nI 2) rfl (by decide) ?_
    rw [hcn]
    have step2 : ¬ (254 - n = 2 ∨ 254 - n = 4) → V K 0 0 mX12_pointTimes 358 lc [] G2 Q := by
      intro hz
      refine V_aload_n rfl (by first | rfl | assumption) ?_
      refine V_iconst (v := nI 5) rfl (by decide) ?_
      refine V_iconst (v := nI 5) rfl (by decide) ?_
      refine V_iconst (v := nI 2) rfl (by decide) ?_
      refine V_callV (M' := mX12_times) (mc := 0) (ms := 0) (bc' := 0) (bs' := 0) rfl cw_X12_196 iv_X12_times (by repeat (first | exact hup_eq | assumption | refine Eq.trans (hup_ne (by first | assumption | exact Ne.symm (by assumption) | decide | omega)) ?_)) rfl rfl (Nat.le_of_ble_eq_true rfl) ⟨Nat.le_of_ble_eq_true rfl, Nat.le_of_ble_eq_true rfl⟩ ⟨Nat.le_of_ble_eq_true rfl, Nat.le_of_ble_eq_true rfl⟩ (As := [.int (nI 5), .int (nI 5), .int (nI 2)]) (c_mtimes (Q := fun o G3 => o = .inl none ∧ ∃ D3, FP P34 G2 G3 ∧ crM D3 G3 ∧ dO 5 D2 D3 ∧ dH D3 5 (mulP (mulP (if n = 0 then 1 else ivP Z2 (n - 1)) (if n = 0 then 1 else ivP Z2 (n - 1))) Z2)) g140 hc2 (by decide) (by decide) (by decide) k5 k2 (fun G9 D9 q1 q2 q3 q4 => ⟨rfl, D9, q1, q2, q3, q4⟩)) (fun o G3 h => ?_) (fun E G' h => by cases h.1)
      obtain ⟨h, D3, F3, hc3, ho3, j5⟩ := h
      cases h
      refine fin _ _ _ l0 l5 l6 l7 ((F.trans F2 (fun _ q => q)).trans F3 (fun _ q => q)) hc3 (k1.keep ho3 (by decide)) (k2.keep ho3 (by decide)) ?_
      rw [show ivP Z2 n = mulP (mulP (if n = 0 then 1 else ivP Z2 (n - 1)) (if n = 0 then 1 else ivP Z2 (n - 1))) Z2 from ?_]
      · exact j5
      · cases n with
        | zero =>
          simp only [ivP, if_true]
          unfold mulP
          rw [Nat.mod_mul_mod, Nat.one_mul]; try rw [Nat.one_mul]
        | succ m =>
          rw [if_neg (by omega), Nat.add_sub_cancel]
          simp only [ivP]
          rw [if_neg (by omega)]
    have stepx : (254 - n = 2 ∨ 254 - n = 4) → V K 0 0 mX12_pointTimes 365 lc [] G2 Q := by
      intro hz
      refine fin _ _ _ l0 l5 l6 l7 (F.trans F2 (fun _ q => q)) hc2 k1 k2 ?_
      rw [show ivP Z2 n = mulP (if n = 0 then 1 else ivP Z2 (n - 1)) (if n = 0 then 1 else ivP Z2 (n - 1)) from ?_]
      · exact k5
      · cases n with
        | zero => omega
        | succ m =>
          rw [if_neg (by omega), Nat.add_sub_cancel]
          simp only [ivP]
          rw [if_pos (by omega)]
    refine V_icmp_eqN rfl (by omega) (by decide) (fun h => stepx (Or.inl h)) (fun ha => ?_)
    refine V_iload rfl (by assumption) ?_
    refine V_iconst (v := nI 4) rfl (by decide) ?_
    rw [hcn]
    exact V_icmp_eqN rfl (by omega) (by decide) (fun h => stepx (Or.inr h)) (fun hb => step2 (by omega))
  · rintro lc G' ⟨l0, l5, l6, l7, D', F, hc, h1, h2, h5⟩
    have g140 := F.get (by decide) g140
    refine V_iload rfl (by first | rfl | assumption) ?_
    refine V_if_lt rfl (fun _ => ?_) (fun h => absurd (by decide) h)
    refine V_aload_n rfl (by first | rfl | assumption) ?_
    refine V_iconst (v := nI 1) rfl (by decide) ?_
    refine V_iconst (v := nI 1) rfl (by decide) ?_
    refine V_iconst (v := nI 5) rfl (by decide) ?_
    refine V_callV (M' := mX12_times) (mc := 0) (ms := 0) (bc' := 0) (bs' := 0) rfl cw_X12_196 iv_X12_times (by repeat (first | exact hup_eq | assumption | refine Eq.trans (hup_ne (by first | assumption | exact Ne.symm (by assumption) | decide | omega)) ?_)) rfl rfl (Nat.le_of_ble_eq_true rfl) ⟨Nat.le_of_ble_eq_true rfl, Nat.le_of_ble_eq_true rfl⟩ ⟨Nat.le_of_ble_eq_true rfl, Nat.le_of_ble_eq_true rfl⟩ (As := [.int (nI 1), .int (nI 1), .int (nI 5)]) (c_mtimes (Q := fun o G2 => o = .inl none ∧ ∃ D2, FP P34 G' G2 ∧ crM D2 G2 ∧ dH D2 1 (mulP X2 (ivP Z2 254))) g140 hc (by decide) (by decide) (by decide) h1 h5 (fun G9 D9 q1 q2 q3 q4 => ⟨rfl, D9, q1, q2, q4⟩)) (fun o G2 h => ?_) (fun E G' h => by cases h.1)
    obtain ⟨h, D2, F2, hc2, k1⟩ := h
    cases h
    have g140 := F2.get (by decide) g140
    refine V_aload_n rfl (by first | rfl | assumption) ?_
    refine V_iconst (v := nI 1) rfl (by decide) ?_
    refine V_callV (M' := mX12_settle) (mc := 0) (ms := 0) (bc' := 0) (bs' := 0) rfl cw_X12_199 iv_X12_settle (by repeat (first | exact hup_eq | assumption | refine Eq.trans (hup_ne (by first | assumption | exact Ne.symm (by assumption) | decide | omega)) ?_)) rfl rfl (Nat.le_of_ble_eq_true rfl) ⟨Nat.le_of_ble_eq_true rfl, Nat.le_of_ble_eq_true rfl⟩ ⟨Nat.le_of_ble_eq_true rfl, Nat.le_of_ble_eq_true rfl⟩ (As := [.int (nI 1)]) (c_msettle (Q := fun o G3 => o = .inl none ∧ ∃ D3, FP P34 G2 G3 ∧ crM D3 G3 ∧ (∀ k, k < 17 → D3 (17 * 1 + k) < 2 ^ 15) ∧ vs (2 ^ 15) (fun k => D3 (17 * 1 + k)) 17 = mulP X2 (ivP Z2 254)) g140 hc2 (by decide) k1 (fun G9 D9 q1 q2 q3 q4 => ⟨rfl, D9, q1, q2, q3, q4⟩)) (fun o G3 h => ?_) (fun E G' h => by cases h.1)
    obtain ⟨h, D3, F3, hc3, j1, j2⟩ := h
    cases h
    have g140 := F3.get (by decide) g140
    have FF := (F.trans F2 (fun _ q => q)).trans F3 (fun _ q => q)
    refine V_mptout g140 hc3.1 (FF.get (by rintro (q | q) <;> omega) gt9) ⟨t1, t2⟩ hNt j1 j2 l0 l5 l6 (hq _ FF ⟨D3, hc3⟩)
set_option maxHeartbeats 4000000 in
theorem c_mpoint {kc ka Nk uc ua Nu tc ta9 Nt : Nat} {k u o : Nat → Nat} (g140 : G.1 140 = some (MO th ta os hs ps rs)) (hc0 : ∃ D, crM D G) (gk : G.1 kc = some (YA Nk k)) (gu : G.1 uc = some (YA Nu u)) (gt9 : G.1 tc = some (YA Nt o)) (hk0 : kc ≠ 143 ∧ kc ≠ 144) (hu0 : uc ≠ 143 ∧ uc ≠ 144) (htc : tc ≠ 143 ∧ tc ≠ 144 ∧ tc ≠ 140) (hNk : ka + 32 ≤ Nk ∧ Nk < 2 ^ 20) (hNu : ua + 32 ≤ Nu ∧ Nu < 2 ^ 20) (hNt : ta9 + 32 ≤ Nt ∧ Nt < 2 ^ 20) (hkb : ∀ j, k j < 256) (hub : ∀ j, u j < 256)
    (hq : ∀ G', FP (fun j => j = 143 ∨ j = 144 ∨ j = tc) G G' → (∃ D, crM D G') → G'.1 tc = some (YA Nt (ovw o ta9 32 (mulB (sft k ka) (sft u ua)))) → Q (.inl none) G') : C K 0 0 mX12_pointTimes [.ref 140, .ref kc, .int (nI ka), .ref uc, .int (nI ua), .ref tc, .int (nI ta9)] G Q := by
  obtain ⟨D, hc⟩ := hc0
  have gO := g140
  have hub' : ∀ j, sft u ua j < 256 := fun j => hub _
  obtain ⟨U, hU⟩ : ∃ U, U = vs 256 (sft u ua) 32 := ⟨_, rfl⟩
  refine C_of okX12_pointTimes (Nat.le_of_ble_eq_true rfl) ?_
  refine V_aload_n rfl (by first | rfl | assumption) ?_
  refine V_iconst (v := nI 0) rfl (by decide) ?_
  refine V_iconst (v := nI 0) rfl (by decide) ?_
  refine V_callV (M' := mX12_putSmall) (mc := 0) (ms := 0) (bc' := 0) (bs' := 0) rfl cw_X12_170 iv_X12_putSmall (by repeat (first | exact hup_eq | assumption | refine Eq.trans (hup_ne (by first | assumption | exact Ne.symm (by assumption) | decide | omega)) ?_)) rfl rfl (Nat.le_of_ble_eq_true rfl) ⟨Nat.le_of_ble_eq_true rfl, Nat.le_of_ble_eq_true rfl⟩ ⟨Nat.le_of_ble_eq_true rfl, Nat.le_of_ble_eq_true rfl⟩ (As := [.int (nI 0), .int (nI 0)]) (c_mputSmall (Q := fun o G1 => o = .inl none ∧ G1 = hup G 143 (LA 340 (ovw D (17 * 0) 17 (smf 0)))) g140 hc.1 (by decide) (by decide) ⟨rfl, rfl⟩) (fun o G1 h => ?_) (fun E G' h => by cases h.1)
  obtain ⟨h, rfl⟩ := h
  cases h
  refine V_iconst (v := nI 0) rfl (by decide) ?_
  refine V_istore rfl (by decide) ?_
  refine V_loop 255 (fun n lc G' => lc 0 = some (.ref 140) ∧ lc 1 = some (.ref kc) ∧ lc 2 = some (.int (nI ka)) ∧ lc 3 = some (.ref uc) ∧ lc 4 = some (.int (nI ua)) ∧ lc 5 = some (.ref tc) ∧ lc 6 = some (.int (nI ta9)) ∧ lc 7 = some (.int (nI n)) ∧ G' = hup G 143 (LA 340 (ovw D 0 17 (dgt 15 U n)))) ?_ ?_ 0 _ _ (Nat.zero_le _) ⟨rfl, rfl, rfl, rfl, rfl, rfl, rfl, rfl, by rw [show smf 0 = dgt 15 U 0 from funext (fun k => by rw [dgt_0]; unfold smf; split <;> rfl)]⟩
  · rintro n lc G' hn ⟨l0, l1, l2, l3, l4, l5, l6, l7, rfl⟩ ih
    have hb2 : U / 2 ^ n % 2 < 2 := Nat.mod_lt _ (by decide)
    have hbit : u (ua + n / 8) / 2 ^ (n % 8) % 2 = U / 2 ^ n % 2 := by
      rw [hU]
      exact byte_bit (o := sft u ua) hub' (N := 32) (by omega)
    refine V_iload rfl (by first | rfl | assumption) ?_
    refine V_sipush (v := nI 255) rfl (by decide) ?_
    refine V_icmp_geN rfl (by omega) (by decide) (fun h => absurd h (by omega)) (fun _ => ?_)
    refine V_aload_n rfl (by first | rfl | assumption) ?_
    refine V_getf rfl rfl rfl (by repeat (first | exact hup_eq | assumption | refine Eq.trans (hup_ne (by first | assumption | exact Ne.symm (by assumption) | decide | omega)) ?_)) (by first | rfl | assumption) ?_
    refine V_iload rfl (by first | rfl | assumption) ?_
    refine V_bipush (v := nI 15) rfl (by decide) ?_
    refine V_idivN rfl (by first | omega | decide) (by first | omega | decide) (by first | omega | decide) ?_
    refine V_aload_n rfl (by first | rfl | assumption) ?_
    refine V_getf rfl rfl rfl (by repeat (first | exact hup_eq | assumption | refine Eq.trans (hup_ne (by first | assumption | exact Ne.symm (by assumption) | decide | omega)) ?_)) (by first | rfl | assumption) ?_
    refine V_iload rfl (by first | rfl | assumption) ?_
    refine V_bipush (v := nI 15) rfl (by decide) ?_
    refine V_idivN rfl (by first | omega | decide) (by first | omega | decide) (by first | omega | decide) ?_
    refine V_laldN rfl (by repeat (first | exact hup_eq | assumption | refine Eq.trans (hup_ne (by first | assumption | exact Ne.symm (by assumption) | decide | omega)) ?_)) rfl (by first | omega | decide) (by first | omega | decide) ?_
    rw [show ovw D 0 17 (dgt 15 U n) (n / 15) = dgt 15 U n (n / 15) from ovw_at (Nat.zero_le _) (by omega)]
    refine V_aload_n rfl (by first | rfl | assumption) ?_
    refine V_iload rfl (by first | rfl | assumption) ?_
    refine V_iload rfl (by first | rfl | assumption) ?_
    refine V_callS (M' := mX12_bitOf) (mc := 0) (ms := 0) (bc' := 0) (bs' := 0) rfl cw_X12_174 is_X12_bitOf rfl (Nat.le_of_ble_eq_true rfl) ⟨Nat.le_of_ble_eq_true rfl, Nat.le_of_ble_eq_true rfl⟩ ⟨Nat.le_of_ble_eq_true rfl, Nat.le_of_ble_eq_true rfl⟩ (As := [.ref uc, .int (nI ua), .int (nI n)]) (c_mbit (f := u) (N := Nu) (Q := fun o G1 => o = .inl (some (.int (nI (U / 2 ^ n % 2)))) ∧ G1 = hup G 143 (LA 340 (ovw D 0 17 (dgt 15 U n)))) ((hup_ne hu0.1).trans gu) hub (by omega) (by omega) hNu.2 ⟨by rw [hbit], rfl⟩) (fun o G1 h => ?_) (fun E G' h => by cases h.1)
    obtain ⟨h, rfl⟩ := h
    cases h
    refine V_i2lN rfl (by first | omega | decide) ?_
    refine V_iload rfl (by first | rfl | assumption) ?_
    refine V_bipush (v := nI 15) rfl (by decide) ?_
    refine V_iremN rfl (by first | omega | decide) (by first | omega | decide) (by first | omega | decide) ?_
    refine V_lshlN rfl (by first | omega | decide) ?_
    refine V_lor rfl ?_
    rw [lor_p (by omega) dgt_room hb2]
    refine V_lastN rfl (by repeat (first | exact hup_eq | assumption | refine Eq.trans (hup_ne (by first | assumption | exact Ne.symm (by assumption) | decide | omega)) ?_)) rfl (by first | omega | decide) (by first | omega | decide) ?_
    refine V_iincN (d := 1) rfl (by first | rfl | assumption) (by decide) (by decide) ?_
    refine V_goto rfl ?_
    have hs9 : updN (ovw D 0 17 (dgt 15 U n)) (n / 15) (dgt 15 U n (n / 15) + U / 2 ^ n % 2 * 2 ^ (n % 15)) = ovw D 0 17 (dgt 15 U (n + 1)) := by
      funext j
      by_cases e : j = n / 15
      · subst e
        rw [updN_eq, ovw_at (Nat.zero_le _) (by omega), Nat.sub_zero, dgt_s (by decide), if_pos rfl]
      · rw [updN_ne e]
        unfold ovw
        split
        · rw [dgt_s (by decide), if_neg (by omega)]
        · rfl
    rw [hup_hup, hs9]
    exact ih _ _ ⟨l0, l1, l2, l3, l4, l5, l6, rfl, rfl⟩
  rintro lc G' ⟨l0, l1, l2, l3, l4, l5, l6, l7, rfl⟩
  refine V_iload rfl (by first | rfl | assumption) ?_
  refine V_sipush (v := nI 255) rfl (by decide) ?_
  refine V_icmp_geN rfl (by decide) (by decide) (fun _ => ?_) (fun h => absurd (Nat.le_refl _) h)
  obtain ⟨D1, hD1⟩ : ∃ D1, D1 = ovw D 0 17 (dgt 15 U 255) := ⟨_, rfl⟩
  have h0 : dH D1 0 (uval (sft u ua) % PP) := by
    rw [hD1]
    refine dH_ovw (to := 0) (fun k _ => dgt_lt 15 U 255 k) ?_
    rw [dgt_v, hU]
    unfold uval
    congr 1
    exact Nat.mod_mod_of_dvd _ (by decide)
  rw [← hD1]
  have hc1 : crM D1 (hup G 143 (LA 340 D1)) := hc.up
  have F1 : FP P34 G (hup G 143 (LA 340 D1)) := FP.rf.hup (Or.inl rfl)
  generalize hup G 143 (LA 340 D1) = G1 at hc1 F1
  have g140 := F1.get (by decide) g140
  refine V_aload_n rfl (by first | rfl | assumption) ?_
  refine V_iconst (v := nI 1) rfl (by decide) ?_
  refine V_iconst (v := nI 1) rfl (by decide) ?_
  refine V_callV (M' := mX12_putSmall) (mc := 0) (ms := 0) (bc' := 0) (bs' := 0) rfl cw_X12_170 iv_X12_putSmall (by repeat (first | exact hup_eq | assumption | refine Eq.trans (hup_ne (by first | assumption | exact Ne.symm (by assumption) | decide | omega)) ?_)) rfl rfl (Nat.le_of_ble_eq_true rfl) ⟨Nat.le_of_ble_eq_true rfl, Nat.le_of_ble_eq_true rfl⟩ ⟨Nat.le_of_ble_eq_true rfl, Nat.le_of_ble_eq_true rfl⟩ (As := [.int (nI 1), .int (nI 1)]) (c_mputSmall (Q := fun o G2 => o = .inl none ∧ G2 = hup G1 143 (LA 340 (ovw D1 (17 * 1) 17 (smf 1)))) g140 hc1.1 (by decide) (by decide) ⟨rfl, rfl⟩) (fun o G2 h => ?_) (fun E G' h => by cases h.1)
  obtain ⟨h, rfl⟩ := h
  cases h
  have h0 := h0.keep (dO_ovw (y := smf 1) (to := 1)) (by decide)
  have h1 : dH (ovw D1 (17 * 1) 17 (smf 1)) 1 1 := dsm_ok (by decide)
  generalize ovw D1 (17 * 1) 17 (smf 1) = D2 at h0 h1
  refine V_aload_n rfl (by first | rfl | assumption) ?_
  refine V_iconst (v := nI 2) rfl (by decide) ?_
  refine V_iconst (v := nI 0) rfl (by decide) ?_
  refine V_callV (M' := mX12_putSmall) (mc := 0) (ms := 0) (bc' := 0) (bs' := 0) rfl cw_X12_170 iv_X12_putSmall (by repeat (first | exact hup_eq | assumption | refine Eq.trans (hup_ne (by first | assumption | exact Ne.symm (by assumption) | decide | omega)) ?_)) rfl rfl (Nat.le_of_ble_eq_true rfl) ⟨Nat.le_of_ble_eq_true rfl, Nat.le_of_ble_eq_true rfl⟩ ⟨Nat.le_of_ble_eq_true rfl, Nat.le_of_ble_eq_true rfl⟩ (As := [.int (nI 2), .int (nI 0)]) (c_mputSmall (D := D2) (Q := fun o G2 => o = .inl none ∧ G2 = hup G1 143 (LA 340 (ovw D2 (17 * 2) 17 (smf 0)))) (by repeat (first | exact hup_eq | assumption | refine Eq.trans (hup_ne (by first | assumption | exact Ne.symm (by assumption) | decide | omega)) ?_)) (by repeat (first | exact hup_eq | assumption | refine Eq.trans (hup_ne (by first | assumption | exact Ne.symm (by assumption) | decide | omega)) ?_)) (by decide) (by decide) ⟨rfl, by rw [hup_hup]⟩) (fun o G2 h => ?_) (fun E G' h => by cases h.1)
  obtain ⟨h, rfl⟩ := h
  cases h
  have h0 := h0.keep (dO_ovw (y := smf 0) (to := 2)) (by decide)
  have h1 := h1.keep (dO_ovw (y := smf 0) (to := 2)) (by decide)
  have h2 : dH (ovw D2 (17 * 2) 17 (smf 0)) 2 0 := dsm_ok (by decide)
  generalize ovw D2 (17 * 2) 17 (smf 0) = D3 at h0 h1 h2
  refine V_aload_n rfl (by first | rfl | assumption) ?_
  refine V_iconst (v := nI 3) rfl (by decide) ?_
  refine V_iconst (v := nI 0) rfl (by decide) ?_
  refine V_callV (M' := mX12_copy) (mc := 0) (ms := 0) (bc' := 0) (bs' := 0) rfl cw_X12_178 iv_X12_copy (by repeat (first | exact hup_eq | assumption | refine Eq.trans (hup_ne (by first | assumption | exact Ne.symm (by assumption) | decide | omega)) ?_)) rfl rfl (Nat.le_of_ble_eq_true rfl) ⟨Nat.le_of_ble_eq_true rfl, Nat.le_of_ble_eq_true rfl⟩ ⟨Nat.le_of_ble_eq_true rfl, Nat.le_of_ble_eq_true rfl⟩ (As := [.int (nI 3), .int (nI 0)]) (c_mcopy (D := D3) (Q := fun o G2 => o = .inl none ∧ G2 = hup G1 143 (LA 340 (ovw D3 (17 * 3) 17 (fun k => D3 (17 * 0 + k))))) (by repeat (first | exact hup_eq | assumption | refine Eq.trans (hup_ne (by first | assumption | exact Ne.symm (by assumption) | decide | omega)) ?_)) (by repeat (first | exact hup_eq | assumption | refine Eq.trans (hup_ne (by first | assumption | exact Ne.symm (by assumption) | decide | omega)) ?_)) (by decide) (by decide) (by decide) ⟨rfl, by rw [hup_hup]⟩) (fun o G2 h => ?_) (fun E G' h => by cases h.1)
  obtain ⟨h, rfl⟩ := h
  cases h
  have h3 : dH (ovw D3 (17 * 3) 17 (fun k => D3 (17 * 0 + k))) 3 (uval (sft u ua) % PP) := dH_ovw h0.1 h0.2
  have h0 := h0.keep (dO_ovw (y := fun k => D3 (17 * 0 + k)) (to := 3)) (by decide)
  have h1 := h1.keep (dO_ovw (y := fun k => D3 (17 * 0 + k)) (to := 3)) (by decide)
  have h2 := h2.keep (dO_ovw (y := fun k => D3 (17 * 0 + k)) (to := 3)) (by decide)
  generalize ovw D3 (17 * 3) 17 (fun k => D3 (17 * 0 + k)) = D4 at h0 h1 h2 h3
  refine V_aload_n rfl (by first | rfl | assumption) ?_
  refine V_iconst (v := nI 4) rfl (by decide) ?_
  refine V_iconst (v := nI 1) rfl (by decide) ?_
  refine V_callV (M' := mX12_putSmall) (mc := 0) (ms := 0) (bc' := 0) (bs' := 0) rfl cw_X12_170 iv_X12_putSmall (by repeat (first | exact hup_eq | assumption | refine Eq.trans (hup_ne (by first | assumption | exact Ne.symm (by assumption) | decide | omega)) ?_)) rfl rfl (Nat.le_of_ble_eq_true rfl) ⟨Nat.le_of_ble_eq_true rfl, Nat.le_of_ble_eq_true rfl⟩ ⟨Nat.le_of_ble_eq_true rfl, Nat.le_of_ble_eq_true rfl⟩ (As := [.int (nI 4), .int (nI 1)]) (c_mputSmall (D := D4) (Q := fun o G2 => o = .inl none ∧ G2 = hup G1 143 (LA 340 (ovw D4 (17 * 4) 17 (smf 1)))) (by repeat (first | exact hup_eq | assumption | refine Eq.trans (hup_ne (by first | assumption | exact Ne.symm (by assumption) | decide | omega)) ?_)) (by repeat (first | exact hup_eq | assumption | refine Eq.trans (hup_ne (by first | assumption | exact Ne.symm (by assumption) | decide | omega)) ?_)) (by decide) (by decide) ⟨rfl, by rw [hup_hup]⟩) (fun o G2 h => ?_) (fun E G' h => by cases h.1)
  obtain ⟨h, rfl⟩ := h
  cases h
  have h0 := h0.keep (dO_ovw (y := smf 1) (to := 4)) (by decide)
  have h1 := h1.keep (dO_ovw (y := smf 1) (to := 4)) (by decide)
  have h2 := h2.keep (dO_ovw (y := smf 1) (to := 4)) (by decide)
  have h3 := h3.keep (dO_ovw (y := smf 1) (to := 4)) (by decide)
  have h4 : dH (ovw D4 (17 * 4) 17 (smf 1)) 4 1 := dsm_ok (by decide)
  generalize ovw D4 (17 * 4) 17 (smf 1) = D5 at h0 h1 h2 h3 h4
  refine V_aload_n rfl (by first | rfl | assumption) ?_
  refine V_bipush (v := nI 14) rfl (by decide) ?_
  refine V_iconst (v := nI 0) rfl (by decide) ?_
  refine V_callV (M' := mX12_putSmall) (mc := 0) (ms := 0) (bc' := 0) (bs' := 0) rfl cw_X12_170 iv_X12_putSmall (by repeat (first | exact hup_eq | assumption | refine Eq.trans (hup_ne (by first | assumption | exact Ne.symm (by assumption) | decide | omega)) ?_)) rfl rfl (Nat.le_of_ble_eq_true rfl) ⟨Nat.le_of_ble_eq_true rfl, Nat.le_of_ble_eq_true rfl⟩ ⟨Nat.le_of_ble_eq_true rfl, Nat.le_of_ble_eq_true rfl⟩ (As := [.int (nI 14), .int (nI 0)]) (c_mputSmall (D := D5) (Q := fun o G2 => o = .inl none ∧ G2 = hup G1 143 (LA 340 (ovw D5 (17 * 14) 17 (smf 0)))) (by repeat (first | exact hup_eq | assumption | refine Eq.trans (hup_ne (by first | assumption | exact Ne.symm (by assumption) | decide | omega)) ?_)) (by repeat (first | exact hup_eq | assumption | refine Eq.trans (hup_ne (by first | assumption | exact Ne.symm (by assumption) | decide | omega)) ?_)) (by decide) (by decide) ⟨rfl, by rw [hup_hup]⟩) (fun o G2 h => ?_) (fun E G' h => by cases h.1)
  obtain ⟨h, rfl⟩ := h
  cases h
  have h0 := h0.keep (dO_ovw (y := smf 0) (to := 14)) (by decide)
  have h1 := h1.keep (dO_ovw (y := smf 0) (to := 14)) (by decide)
  have h2 := h2.keep (dO_ovw (y := smf 0) (to := 14)) (by decide)
  have h3 := h3.keep (dO_ovw (y := smf 0) (to := 14)) (by decide)
  have h4 := h4.keep (dO_ovw (y := smf 0) (to := 14)) (by decide)
  have h14 : dH (ovw D5 (17 * 14) 17 (smf 0)) 14 0 := dsm_ok (by decide)
  have hz : ∀ k, k < 17 → ovw D5 (17 * 14) 17 (smf 0) (17 * 14 + k) = 0 := fun k hk => by rw [ovw_in hk]; unfold smf; split <;> rfl
  generalize ovw D5 (17 * 14) 17 (smf 0) = D6 at h0 h1 h2 h3 h4 h14 hz
  refine V_aload_n rfl (by first | rfl | assumption) ?_
  refine V_getf rfl rfl rfl (by repeat (first | exact hup_eq | assumption | refine Eq.trans (hup_ne (by first | assumption | exact Ne.symm (by assumption) | decide | omega)) ?_)) (by first | rfl | assumption) ?_
  refine V_sipush (v := nI 238) rfl (by decide) ?_
  refine V_ldc2 (v := lN 23361) rfl kc_X12_181 ?_
  refine V_lastN rfl (by repeat (first | exact hup_eq | assumption | refine Eq.trans (hup_ne (by first | assumption | exact Ne.symm (by assumption) | decide | omega)) ?_)) rfl (by first | omega | decide) (by first | omega | decide) ?_
  refine V_aload_n rfl (by first | rfl | assumption) ?_
  refine V_getf rfl rfl rfl (by repeat (first | exact hup_eq | assumption | refine Eq.trans (hup_ne (by first | assumption | exact Ne.symm (by assumption) | decide | omega)) ?_)) (by first | rfl | assumption) ?_
  refine V_sipush (v := nI 239) rfl (by decide) ?_
  refine V_ldc2 (v := lN 3) rfl kc_X12_183 ?_
  refine V_lastN rfl (by repeat (first | exact hup_eq | assumption | refine Eq.trans (hup_ne (by first | assumption | exact Ne.symm (by assumption) | decide | omega)) ?_)) rfl (by first | omega | decide) (by first | omega | decide) ?_
  refine V_sipush (v := nI 254) rfl (by decide) ?_
  refine V_istore rfl (by decide) ?_
  rw [hup_hup, hup_hup]
  have h0 := d14_o h0 (by decide)
  have h1 := d14_o h1 (by decide)
  have h2 := d14_o h2 (by decide)
  have h3 := d14_o h3 (by decide)
  have h4 := d14_o h4 (by decide)
  have h14 := d14_ok h14 hz
  generalize updN (updN D6 238 23361) 239 3 = D7 at h0 h1 h2 h3 h4 h14
  have F7 : FP P34 G (hup G1 143 (LA 340 D7)) := F1.hup (Or.inl rfl)
  have hc7 : crM D7 (hup G1 143 (LA 340 D7)) := hc1.up
  generalize hup G1 143 (LA 340 D7) = G7 at F7 hc7
  clear hc1 F1
  obtain ⟨UU, hUU⟩ : ∃ UU, UU = uval (sft u ua) % PP := ⟨_, rfl⟩
  rw [← hUU] at h0 h3
  refine V_loop 255 (fun n lc G' => lc 0 = some (.ref 140) ∧ lc 1 = some (.ref kc) ∧ lc 2 = some (.int (nI ka)) ∧ lc 5 = some (.ref tc) ∧ lc 6 = some (.int (nI ta9)) ∧ lc 7 = some (.int (cnt 254 n)) ∧ ∃ D', FP P34 G G' ∧ crM D' G' ∧ ladI D' UU (sft k ka) n) ?_ ?_ 0 _ _ (Nat.zero_le _) ⟨l0, l1, l2, l5, l6, rfl, D7, F7, hc7, h0, h14, h1, h2, h3, h4⟩
  · rintro n lc G' hn ⟨l0, l1, l2, l5, l6, l7, D', F, hc, h0, h14, h1, h2, h3, h4⟩ ih
    have hcn : cnt 254 n = nI (254 - n) := by unfold cnt; rw [if_pos (by omega)]
    have gk' := F.get (by rintro (q | q) <;> omega) gk
    have g140 := F.get (by decide) gO
    have tl : ∀ one : Bool, (one = true ↔ bitf (facf (sft k ka)) (254 - n) = 1) → V K 0 0 mX12_pointTimes 152 lc [.int (bI one)] G' Q := by
      intro one hone
      refine V_istore rfl (by decide) ?_
      refine V_aload_n rfl (by first | rfl | assumption) ?_
      refine V_iload rfl (by first | rfl | assumption) ?_
      refine V_callV (M' := mX12_turnRound) (mc := 0) (ms := 0) (bc' := 0) (bs' := 0) rfl cw_X12_185 iv_X12_turnRound (by repeat (first | exact hup_eq | assumption | refine Eq.trans (hup_ne (by first | assumption | exact Ne.symm (by assumption) | decide | omega)) ?_)) rfl rfl (Nat.le_of_ble_eq_true rfl) ⟨Nat.le_of_ble_eq_true rfl, Nat.le_of_ble_eq_true rfl⟩ ⟨Nat.le_of_ble_eq_true rfl, Nat.le_of_ble_eq_true rfl⟩ (As := [.int (bI one)]) (c_mturn (Q := fun o G2 => o = .inl none ∧ FP P34 G' G2 ∧ crM (if one then swp D' 34 else D') G2) g140 hc (fun G9 q1 q2 => ⟨rfl, q1, q2⟩)) (fun o G2 h => ?_) (fun E G' h => by cases h.1)
      obtain ⟨h, F2, hc2⟩ := h
      cases h
      have g140 := F2.get (by decide) g140
      have fin : ∀ (G3 : kG) (D3 : Nat → Nat), FP P34 G G3 → crM D3 G3 → G3.1 140 = some (MO th ta os hs ps rs) → ladI (if one then swp D3 34 else D3) UU (sft k ka) (n + 1) → V K 0 0 mX12_pointTimes 311 (ls1 lc 8 (.int (bI one))) [] G3 Q := by
        intro G3 D3 q1 q2 q3 q4
        refine V_aload_n rfl (by first | rfl | assumption) ?_
        refine V_iload rfl (by first | rfl | assumption) ?_
        refine V_callV (M' := mX12_turnRound) (mc := 0) (ms := 0) (bc' := 0) (bs' := 0) rfl cw_X12_185 iv_X12_turnRound (by repeat (first | exact hup_eq | assumption | refine Eq.trans (hup_ne (by first | assumption | exact Ne.symm (by assumption) | decide | omega)) ?_)) rfl rfl (Nat.le_of_ble_eq_true rfl) ⟨Nat.le_of_ble_eq_true rfl, Nat.le_of_ble_eq_true rfl⟩ ⟨Nat.le_of_ble_eq_true rfl, Nat.le_of_ble_eq_true rfl⟩ (As := [.int (bI one)]) (c_mturn (Q := fun o G4 => o = .inl none ∧ FP P34 G3 G4 ∧ crM (if one then swp D3 34 else D3) G4) q3 q2 (fun G9 q1 q2 => ⟨rfl, q1, q2⟩)) (fun o G4 h => ?_) (fun E G' h => by cases h.1)
        obtain ⟨h, F4, hc4⟩ := h
        cases h
        refine V_iinc (v := cnt 254 (n + 1)) rfl (by exact l7) (cnt_s (by omega)) (by decide) ?_
        refine V_goto rfl ?_
        exact ih _ _ ⟨l0, l1, l2, l5, l6, rfl, _, q1.trans F4 (fun _ q => q), hc4, q4⟩
      cases one with
      | true =>
        have hb := hone.mp rfl
        refine V_mladder g140 hc2 (h0.sw (by decide)) (h14.sw (by decide)) (h3.sw (by decide)) (h4.sw (by decide)) (h1.sw (by decide)) (h2.sw (by decide)) (by exact l0) (kc := 0) (ka := 0) (uc := 0) (ua := 0) (tc := 0) (ta9 := 0) (one := true) (n := 0) (fun G3 D3 q1 q2 q3 q4 q5 q6 q7 q8 => fin G3 D3 ((F.trans F2 (fun _ q => q)).trans q1 (fun _ q => q)) q2 (q1.get (by decide) g140) ?_)
        unfold ladI
        rw [lad_s, if_pos hb]
        exact ⟨q3.sw (by decide), q4.sw (by decide), q7.sw (by decide), q8.sw (by decide), q5.sw (by decide), q6.sw (by decide)⟩
      | false =>
        have hb : ¬ bitf (facf (sft k ka)) (254 - n) = 1 := fun q => Bool.noConfusion (hone.mpr q)
        refine V_mladder g140 hc2 h0 h14 h1 h2 h3 h4 (by exact l0) (kc := 0) (ka := 0) (uc := 0) (ua := 0) (tc := 0) (ta9 := 0) (one := true) (n := 0) (fun G3 D3 q1 q2 q3 q4 q5 q6 q7 q8 => fin G3 D3 ((F.trans F2 (fun _ q => q)).trans q1 (fun _ q => q)) q2 (q1.get (by decide) g140) ?_)
        unfold ladI
        rw [lad_s, if_neg hb]
        exact ⟨q3, q4, q5, q6, q7, q8⟩
    have yes : bitf (facf (sft k ka)) (254 - n) = 1 → V K 0 0 mX12_pointTimes 147 lc [] G' Q := by
      intro hb
      refine V_iconst (v := bI true) rfl (by decide) ?_
      refine V_goto rfl ?_
      exact tl true ⟨fun _ => hb, fun _ => rfl⟩
    have no : ¬ bitf (facf (sft k ka)) (254 - n) = 1 → V K 0 0 mX12_pointTimes 151 lc [] G' Q := by
      intro hb
      refine V_iconst (v := bI false) rfl (by decide) ?_
      exact tl false ⟨fun q => Bool.noConfusion q, fun q => absurd q hb⟩
    rw [bit_fac (by omega)] at yes no
    refine V_iload rfl (by first | rfl | assumption) ?_
    refine V_if_lt rfl (fun h => absurd h (by rw [hcn]; exact nI_pos (by omega))) (fun _ => ?_)
    refine V_iload rfl (by assumption) ?_
    refine V_sipush (v := nI 254) rfl (by decide) ?_
    rw [hcn]
    refine V_icmp_eqN rfl (by omega) (by decide) (fun h => yes (Or.inl h)) (fun ha => ?_)
    refine V_iload rfl (by assumption) ?_
    refine V_iconst (v := nI 2) rfl (by decide) ?_
    rw [hcn]
    refine V_icmp_leN rfl (by omega) (by decide) (fun h => no (by omega)) (fun hb => ?_)
    refine V_aload_n rfl (by assumption) ?_
    refine V_iload_n rfl (by assumption) ?_
    refine V_iload rfl (by assumption) ?_
    rw [hcn]
    refine V_callS (M' := mX12_bitOf) (mc := 0) (ms := 0) (bc' := 0) (bs' := 0) rfl cw_X12_174 is_X12_bitOf rfl (Nat.le_of_ble_eq_true rfl) ⟨Nat.le_of_ble_eq_true rfl, Nat.le_of_ble_eq_true rfl⟩ ⟨Nat.le_of_ble_eq_true rfl, Nat.le_of_ble_eq_true rfl⟩ (As := [.ref kc, .int (nI ka), .int (nI (254 - n))]) (c_mbit (f := k) (N := Nk) (Q := fun o G1 => o = .inl (some (.int (nI (k (ka + (254 - n) / 8) / 2 ^ ((254 - n) % 8) % 2)))) ∧ G1 = G') gk' hkb (by omega) (by omega) hNk.2 ⟨rfl, rfl⟩) (fun o G1 h => ?_) (fun E G' h => by cases h.1)
    obtain ⟨h, rfl⟩ := h
    cases h
    have hb2 : k (ka + (254 - n) / 8) / 2 ^ ((254 - n) % 8) % 2 < 2 := Nat.mod_lt _ (by decide)
    refine V_iconst (v := nI 1) rfl (by decide) ?_
    refine V_icmp_neN rfl (by omega) (by decide) (fun h => no (fun q => ?_)) (fun h => yes (Or.inr ⟨by omega, h⟩))
    rcases q with q | q
    · exact ha q
    · exact h q.2
  · rintro lc G' ⟨l0, l1, l2, l5, l6, l7, D', F, hc, h0, h14, h1, h2, h3, h4⟩
    refine V_iload rfl (by first | rfl | assumption) ?_
    refine V_if_lt rfl (fun _ => ?_) (fun h => absurd (by decide) h)
    refine V_mptinv (F.get (by decide) gO) hc h1 h2 (F.get (by rintro (q | q) <;> omega) gt9) htc hNt l0 l5 l6 (fun G2 F2 hc2 => ?_)
    refine hq _ ?_ ?_ ?_
    · exact ((F.trans F2 (fun _ q => q)).sub (fun x hx => by rcases hx with q | q <;> omega)).hup (Or.inr (Or.inr rfl))
    · obtain ⟨D9, hD9⟩ := hc2
      exact ⟨D9, (hup_ne (Ne.symm htc.1)).trans hD9.1, hD9.2.choose, (hup_ne (Ne.symm htc.2.1)).trans hD9.2.choose_spec⟩
    · rw [hup_eq]
      unfold mulB MULT
      rw [← hUU]
end MPt3
