section MPt2
variable {K : kK} {G : kG} {Q : kO → kG → Prop} {th ta os hs ps rs : Int32}
theorem lor_p {a b k : Nat} (hk : k < 32) (ha : a < 2 ^ k) (hb : b < 2) : lN a ||| lN (b * 2 ^ k) = lN (a + b * 2 ^ k) := by
  refine g_or' rfl ha ?_
  have h1 : 2 ^ k ≤ 2 ^ 31 := Nat.pow_le_pow_right (by decide) (by omega)
  have h2 : b * 2 ^ k ≤ 1 * 2 ^ k := Nat.mul_le_mul_right _ (by omega)
  omega
theorem or_p {a b k : Nat} (ha : a < 2 ^ k) : a ||| b * 2 ^ k = a + b * 2 ^ k := by
  rw [Nat.or_comm, Nat.mul_comm, ← Nat.two_pow_add_eq_or_of_lt ha, Nat.add_comm]
theorem bit_or1 {x k b : Nat} (hk : k < 8) (hb : b < 2) : lw (bB x ||| nI b <<< (nI k &&& 31)) = x % 256 ||| b * 2 ^ k := by
  rw [lw_or, lw_B, nI_shl b (by omega), lw_N]
  congr 1
  have h1 : 2 ^ k ≤ 2 ^ 7 := Nat.pow_le_pow_right (by decide) (by omega)
  have h2 : b * 2 ^ k ≤ 1 * 2 ^ k := Nat.mul_le_mul_right _ (by omega)
  exact Nat.mod_eq_of_lt (by omega)
theorem dsm_ok {D : Nat → Nat} {r s : Nat} (hs : s < 2) : dH (ovw D (17 * r) 17 (smf s)) r s := by
  refine dH_ovw (fun k _ => by unfold smf; split <;> omega) ?_
  have : s = 0 ∨ s = 1 := by omega
  rcases this with rfl | rfl <;> decide +kernel
/-- the constant 121665 -/
theorem d14_ok {D : Nat → Nat} (h : dH D 14 0) (hz : ∀ k, k < 17 → D (17 * 14 + k) = 0) : dH (updN (updN D 238 23361) 239 3) 14 121665 := by
  have e2 : ∀ k, k < 17 → updN (updN D 238 23361) 239 3 (17 * 14 + k) = if k = 0 then 23361 else if k = 1 then 3 else 0 := fun k hk => by
    by_cases h0 : k = 0
    · subst h0; rfl
    · by_cases h1 : k = 1
      · subst h1; rfl
      · rw [updN_ne (by omega), updN_ne (by omega), if_neg h0, if_neg h1]; exact hz k hk
  refine ⟨fun k hk => ?_, ?_⟩
  · rw [e2 k hk]; split
    · decide
    · split <;> decide
  · rw [vs_congr e2]; decide +kernel
theorem d14_o {D : Nat → Nat} {r A : Nat} (h : dH D r A) (hr : r < 14) : dH (updN (updN D 238 23361) 239 3) r A :=
  h.to (fun k hk => by rw [updN_ne (by omega), updN_ne (by omega)])
def ladI (D : Nat → Nat) (UU : Nat) (k : Nat → Nat) (n : Nat) : Prop := dH D 0 UU ∧ dH D 14 121665 ∧ dH D 1 (lad UU (facf k) n).1 ∧ dH D 2 (lad UU (facf k) n).2.1 ∧ dH D 3 (lad UU (facf k) n).2.2.1 ∧ dH D 4 (lad UU (facf k) n).2.2.2
set_option maxHeartbeats 16000000 in
/-- one step of the ladder, between two turns -/
theorem V_mladder {kc ka uc ua tc ta9 U0 X2 Z2 X3 Z3 : Nat} {one : Bool} {lc : kLo} {D : Nat → Nat} {n : Int32} (g140 : G.1 140 = some (MO th ta os hs ps rs)) (hc : crM D G) (h0 : dH D 0 U0) (h14 : dH D 14 121665) (h1 : dH D 1 X2) (h2 : dH D 2 Z2) (h3 : dH D 3 X3) (h4 : dH D 4 Z3) (l0 : lc 0 = some (.ref 140))
    (hq : ∀ G' D', FP P34 G G' → crM D' G' → dH D' 0 U0 → dH D' 14 121665 → dH D' 1 (stX2 X2 Z2) → dH D' 2 (stZ2 X2 Z2) → dH D' 3 (stX3 X2 Z2 X3 Z3) → dH D' 4 (stZ3 U0 X2 Z2 X3 Z3) → V K 0 0 mX12_pointTimes 311 lc [] G' Q) : V K 0 0 mX12_pointTimes 160 lc [] G Q := by
  refine V_aload_n rfl (by first | rfl | assumption) ?_
  refine V_iconst (v := nI 5) rfl (by decide) ?_
  refine V_iconst (v := nI 1) rfl (by decide) ?_
  refine V_iconst (v := nI 2) rfl (by decide) ?_
  refine V_callV (M' := mX12_add) (mc := 0) (ms := 0) (bc' := 0) (bs' := 0) rfl cw_X12_189 iv_X12_add (by repeat (first | exact hup_eq | assumption | refine Eq.trans (hup_ne (by first | assumption | exact Ne.symm (by assumption) | decide | omega)) ?_)) rfl rfl (Nat.le_of_ble_eq_true rfl) ⟨Nat.le_of_ble_eq_true rfl, Nat.le_of_ble_eq_true rfl⟩ ⟨Nat.le_of_ble_eq_true rfl, Nat.le_of_ble_eq_true rfl⟩ (As := [.int (nI 5), .int (nI 1), .int (nI 2)]) (c_madd (A := X2) (B := Z2) (Q := fun o G1 => o = .inl none ∧ ∃ D1, FP P34 G G1 ∧ crM D1 G1 ∧ dO 5 D D1 ∧ dH D1 5 (addP X2 Z2)) g140 hc (by decide) (by decide) (by decide) h1 h2 (fun G9 D9 q1 q2 q3 q4 => ⟨rfl, D9, q1, q2, q3, q4⟩)) (fun o G1 h => ?_) (fun E G' h => by cases h.1)
  obtain ⟨h, D1, F1, hc, ho, hn⟩ := h
  cases h
  have g140 := F1.get (by decide) g140
  have h0 := h0.keep ho (by decide)
  have h1 := h1.keep ho (by decide)
  have h2 := h2.keep ho (by decide)
  have h3 := h3.keep ho (by decide)
  have h4 := h4.keep ho (by decide)
  have h14 := h14.keep ho (by decide)
  have h5 := hn
  clear ho hn
  refine V_aload_n rfl (by first | rfl | assumption) ?_
  refine V_bipush (v := nI 6) rfl (by decide) ?_
  refine V_iconst (v := nI 1) rfl (by decide) ?_
  refine V_iconst (v := nI 2) rfl (by decide) ?_
  refine V_callV (M' := mX12_subtract) (mc := 0) (ms := 0) (bc' := 0) (bs' := 0) rfl cw_X12_193 iv_X12_subtract (by repeat (first | exact hup_eq | assumption | refine Eq.trans (hup_ne (by first | assumption | exact Ne.symm (by assumption) | decide | omega)) ?_)) rfl rfl (Nat.le_of_ble_eq_true rfl) ⟨Nat.le_of_ble_eq_true rfl, Nat.le_of_ble_eq_true rfl⟩ ⟨Nat.le_of_ble_eq_true rfl, Nat.le_of_ble_eq_true rfl⟩ (As := [.int (nI 6), .int (nI 1), .int (nI 2)]) (c_msub (A := X2) (B := Z2) (Q := fun o G2 => o = .inl none ∧ ∃ D2, FP P34 G1 G2 ∧ crM D2 G2 ∧ dO 6 D1 D2 ∧ dH D2 6 (subP X2 Z2)) g140 hc (by decide) (by decide) (by decide) h1 h2 (fun G9 D9 q1 q2 q3 q4 => ⟨rfl, D9, q1, q2, q3, q4⟩)) (fun o G2 h => ?_) (fun E G' h => by cases h.1)
  obtain ⟨h, D2, F2, hc, ho, hn⟩ := h
  cases h
  have g140 := F2.get (by decide) g140
  have h0 := h0.keep ho (by decide)
  have h3 := h3.keep ho (by decide)
  have h4 := h4.keep ho (by decide)
  have h5 := h5.keep ho (by decide)
  have h14 := h14.keep ho (by decide)
  have h6 := hn
  clear ho hn
  refine V_aload_n rfl (by first | rfl | assumption) ?_
  refine V_bipush (v := nI 7) rfl (by decide) ?_
  refine V_iconst (v := nI 3) rfl (by decide) ?_
  refine V_iconst (v := nI 4) rfl (by decide) ?_
  refine V_callV (M' := mX12_add) (mc := 0) (ms := 0) (bc' := 0) (bs' := 0) rfl cw_X12_189 iv_X12_add (by repeat (first | exact hup_eq | assumption | refine Eq.trans (hup_ne (by first | assumption | exact Ne.symm (by assumption) | decide | omega)) ?_)) rfl rfl (Nat.le_of_ble_eq_true rfl) ⟨Nat.le_of_ble_eq_true rfl, Nat.le_of_ble_eq_true rfl⟩ ⟨Nat.le_of_ble_eq_true rfl, Nat.le_of_ble_eq_true rfl⟩ (As := [.int (nI 7), .int (nI 3), .int (nI 4)]) (c_madd (A := X3) (B := Z3) (Q := fun o G3 => o = .inl none ∧ ∃ D3, FP P34 G2 G3 ∧ crM D3 G3 ∧ dO 7 D2 D3 ∧ dH D3 7 (addP X3 Z3)) g140 hc (by decide) (by decide) (by decide) h3 h4 (fun G9 D9 q1 q2 q3 q4 => ⟨rfl, D9, q1, q2, q3, q4⟩)) (fun o G3 h => ?_) (fun E G' h => by cases h.1)
  obtain ⟨h, D3, F3, hc, ho, hn⟩ := h
  cases h
  have g140 := F3.get (by decide) g140
  have h0 := h0.keep ho (by decide)
  have h3 := h3.keep ho (by decide)
  have h4 := h4.keep ho (by decide)
  have h5 := h5.keep ho (by decide)
  have h6 := h6.keep ho (by decide)
  have h14 := h14.keep ho (by decide)
  have h7 := hn
  clear ho hn
  refine V_aload_n rfl (by first | rfl | assumption) ?_
  refine V_bipush (v := nI 8) rfl (by decide) ?_
  refine V_iconst (v := nI 3) rfl (by decide) ?_
  refine V_iconst (v := nI 4) rfl (by decide) ?_
  refine V_callV (M' := mX12_subtract) (mc := 0) (ms := 0) (bc' := 0) (bs' := 0) rfl cw_X12_193 iv_X12_subtract (by repeat (first | exact hup_eq | assumption | refine Eq.trans (hup_ne (by first | assumption | exact Ne.symm (by assumption) | decide | omega)) ?_)) rfl rfl (Nat.le_of_ble_eq_true rfl) ⟨Nat.le_of_ble_eq_true rfl, Nat.le_of_ble_eq_true rfl⟩ ⟨Nat.le_of_ble_eq_true rfl, Nat.le_of_ble_eq_true rfl⟩ (As := [.int (nI 8), .int (nI 3), .int (nI 4)]) (c_msub (A := X3) (B := Z3) (Q := fun o G4 => o = .inl none ∧ ∃ D4, FP P34 G3 G4 ∧ crM D4 G4 ∧ dO 8 D3 D4 ∧ dH D4 8 (subP X3 Z3)) g140 hc (by decide) (by decide) (by decide) h3 h4 (fun G9 D9 q1 q2 q3 q4 => ⟨rfl, D9, q1, q2, q3, q4⟩)) (fun o G4 h => ?_) (fun E G' h => by cases h.1)
  obtain ⟨h, D4, F4, hc, ho, hn⟩ := h
  cases h
  have g140 := F4.get (by decide) g140
  have h0 := h0.keep ho (by decide)
  have h5 := h5.keep ho (by decide)
  have h6 := h6.keep ho (by decide)
  have h7 := h7.keep ho (by decide)
  have h14 := h14.keep ho (by decide)
  have h8 := hn
  clear ho hn
  refine V_aload_n rfl (by first | rfl | assumption) ?_
  refine V_bipush (v := nI 10) rfl (by decide) ?_
  refine V_iconst (v := nI 5) rfl (by decide) ?_
  refine V_iconst (v := nI 5) rfl (by decide) ?_
  refine V_callV (M' := mX12_times) (mc := 0) (ms := 0) (bc' := 0) (bs' := 0) rfl cw_X12_196 iv_X12_times (by repeat (first | exact hup_eq | assumption | refine Eq.trans (hup_ne (by first | assumption | exact Ne.symm (by assumption) | decide | omega)) ?_)) rfl rfl (Nat.le_of_ble_eq_true rfl) ⟨Nat.le_of_ble_eq_true rfl, Nat.le_of_ble_eq_true rfl⟩ ⟨Nat.le_of_ble_eq_true rfl, Nat.le_of_ble_eq_true rfl⟩ (As := [.int (nI 10), .int (nI 5), .int (nI 5)]) (c_mtimes (A := (addP X2 Z2)) (B := (addP X2 Z2)) (Q := fun o G5 => o = .inl none ∧ ∃ D5, FP P34 G4 G5 ∧ crM D5 G5 ∧ dO 10 D4 D5 ∧ dH D5 10 (mulP (addP X2 Z2) (addP X2 Z2))) g140 hc (by decide) (by decide) (by decide) h5 h5 (fun G9 D9 q1 q2 q3 q4 => ⟨rfl, D9, q1, q2, q3, q4⟩)) (fun o G5 h => ?_) (fun E G' h => by cases h.1)
  obtain ⟨h, D5, F5, hc, ho, hn⟩ := h
  cases h
  have g140 := F5.get (by decide) g140
  have h0 := h0.keep ho (by decide)
  have h5 := h5.keep ho (by decide)
  have h6 := h6.keep ho (by decide)
  have h7 := h7.keep ho (by decide)
  have h8 := h8.keep ho (by decide)
  have h14 := h14.keep ho (by decide)
  have h10 := hn
  clear ho hn
  refine V_aload_n rfl (by first | rfl | assumption) ?_
  refine V_bipush (v := nI 11) rfl (by decide) ?_
  refine V_bipush (v := nI 6) rfl (by decide) ?_
  refine V_bipush (v := nI 6) rfl (by decide) ?_
  refine V_callV (M' := mX12_times) (mc := 0) (ms := 0) (bc' := 0) (bs' := 0) rfl cw_X12_196 iv_X12_times (by repeat (first | exact hup_eq | assumption | refine Eq.trans (hup_ne (by first | assumption | exact Ne.symm (by assumption) | decide | omega)) ?_)) rfl rfl (Nat.le_of_ble_eq_true rfl) ⟨Nat.le_of_ble_eq_true rfl, Nat.le_of_ble_eq_true rfl⟩ ⟨Nat.le_of_ble_eq_true rfl, Nat.le_of_ble_eq_true rfl⟩ (As := [.int (nI 11), .int (nI 6), .int (nI 6)]) (c_mtimes (A := (subP X2 Z2)) (B := (subP X2 Z2)) (Q := fun o G6 => o = .inl none ∧ ∃ D6, FP P34 G5 G6 ∧ crM D6 G6 ∧ dO 11 D5 D6 ∧ dH D6 11 (mulP (subP X2 Z2) (subP X2 Z2))) g140 hc (by decide) (by decide) (by decide) h6 h6 (fun G9 D9 q1 q2 q3 q4 => ⟨rfl, D9, q1, q2, q3, q4⟩)) (fun o G6 h => ?_) (fun E G' h => by cases h.1)
  obtain ⟨h, D6, F6, hc, ho, hn⟩ := h
  cases h
  have g140 := F6.get (by decide) g140
  have h0 := h0.keep ho (by decide)
  have h5 := h5.keep ho (by decide)
  have h6 := h6.keep ho (by decide)
  have h7 := h7.keep ho (by decide)
  have h8 := h8.keep ho (by decide)
  have h10 := h10.keep ho (by decide)
  have h14 := h14.keep ho (by decide)
  have h11 := hn
  clear ho hn
  refine V_aload_n rfl (by first | rfl | assumption) ?_
  refine V_bipush (v := nI 9) rfl (by decide) ?_
  refine V_bipush (v := nI 10) rfl (by decide) ?_
  refine V_bipush (v := nI 11) rfl (by decide) ?_
  refine V_callV (M' := mX12_subtract) (mc := 0) (ms := 0) (bc' := 0) (bs' := 0) rfl cw_X12_193 iv_X12_subtract (by repeat (first | exact hup_eq | assumption | refine Eq.trans (hup_ne (by first | assumption | exact Ne.symm (by assumption) | decide | omega)) ?_)) rfl rfl (Nat.le_of_ble_eq_true rfl) ⟨Nat.le_of_ble_eq_true rfl, Nat.le_of_ble_eq_true rfl⟩ ⟨Nat.le_of_ble_eq_true rfl, Nat.le_of_ble_eq_true rfl⟩ (As := [.int (nI 9), .int (nI 10), .int (nI 11)]) (c_msub (A := (mulP (addP X2 Z2) (addP X2 Z2))) (B := (mulP (subP X2 Z2) (subP X2 Z2))) (Q := fun o G7 => o = .inl none ∧ ∃ D7, FP P34 G6 G7 ∧ crM D7 G7 ∧ dO 9 D6 D7 ∧ dH D7 9 (subP (mulP (addP X2 Z2) (addP X2 Z2)) (mulP (subP X2 Z2) (subP X2 Z2)))) g140 hc (by decide) (by decide) (by decide) h10 h11 (fun G9 D9 q1 q2 q3 q4 => ⟨rfl, D9, q1, q2, q3, q4⟩)) (fun o G7 h => ?_) (fun E G' h => by cases h.1)
  obtain ⟨h, D7, F7, hc, ho, hn⟩ := h
  cases h
  have g140 := F7.get (by decide) g140
  have h0 := h0.keep ho (by decide)
  have h5 := h5.keep ho (by decide)
  have h6 := h6.keep ho (by decide)
  have h7 := h7.keep ho (by decide)
  have h8 := h8.keep ho (by decide)
  have h10 := h10.keep ho (by decide)
  have h11 := h11.keep ho (by decide)
  have h14 := h14.keep ho (by decide)
  have h9 := hn
  clear ho hn
  refine V_aload_n rfl (by first | rfl | assumption) ?_
  refine V_bipush (v := nI 12) rfl (by decide) ?_
  refine V_bipush (v := nI 8) rfl (by decide) ?_
  refine V_iconst (v := nI 5) rfl (by decide) ?_
  refine V_callV (M' := mX12_times) (mc := 0) (ms := 0) (bc' := 0) (bs' := 0) rfl cw_X12_196 iv_X12_times (by repeat (first | exact hup_eq | assumption | refine Eq.trans (hup_ne (by first | assumption | exact Ne.symm (by assumption) | decide | omega)) ?_)) rfl rfl (Nat.le_of_ble_eq_true rfl) ⟨Nat.le_of_ble_eq_true rfl, Nat.le_of_ble_eq_true rfl⟩ ⟨Nat.le_of_ble_eq_true rfl, Nat.le_of_ble_eq_true rfl⟩ (As := [.int (nI 12), .int (nI 8), .int (nI 5)]) (c_mtimes (A := (subP X3 Z3)) (B := (addP X2 Z2)) (Q := fun o G8 => o = .inl none ∧ ∃ D8, FP P34 G7 G8 ∧ crM D8 G8 ∧ dO 12 D7 D8 ∧ dH D8 12 (mulP (subP X3 Z3) (addP X2 Z2))) g140 hc (by decide) (by decide) (by decide) h8 h5 (fun G9 D9 q1 q2 q3 q4 => ⟨rfl, D9, q1, q2, q3, q4⟩)) (fun o G8 h => ?_) (fun E G' h => by cases h.1)
  obtain ⟨h, D8, F8, hc, ho, hn⟩ := h
  cases h
  have g140 := F8.get (by decide) g140
  have h0 := h0.keep ho (by decide)
  have h6 := h6.keep ho (by decide)
  have h7 := h7.keep ho (by decide)
  have h9 := h9.keep ho (by decide)
  have h10 := h10.keep ho (by decide)
  have h11 := h11.keep ho (by decide)
  have h14 := h14.keep ho (by decide)
  have h12 := hn
  clear ho hn
  refine V_aload_n rfl (by first | rfl | assumption) ?_
  refine V_bipush (v := nI 13) rfl (by decide) ?_
  refine V_bipush (v := nI 7) rfl (by decide) ?_
  refine V_bipush (v := nI 6) rfl (by decide) ?_
  refine V_callV (M' := mX12_times) (mc := 0) (ms := 0) (bc' := 0) (bs' := 0) rfl cw_X12_196 iv_X12_times (by repeat (first | exact hup_eq | assumption | refine Eq.trans (hup_ne (by first | assumption | exact Ne.symm (by assumption) | decide | omega)) ?_)) rfl rfl (Nat.le_of_ble_eq_true rfl) ⟨Nat.le_of_ble_eq_true rfl, Nat.le_of_ble_eq_true rfl⟩ ⟨Nat.le_of_ble_eq_true rfl, Nat.le_of_ble_eq_true rfl⟩ (As := [.int (nI 13), .int (nI 7), .int (nI 6)]) (c_mtimes (A := (addP X3 Z3)) (B := (subP X2 Z2)) (Q := fun o G9 => o = .inl none ∧ ∃ D9, FP P34 G8 G9 ∧ crM D9 G9 ∧ dO 13 D8 D9 ∧ dH D9 13 (mulP (addP X3 Z3) (subP X2 Z2))) g140 hc (by decide) (by decide) (by decide) h7 h6 (fun G9 D9 q1 q2 q3 q4 => ⟨rfl, D9, q1, q2, q3, q4⟩)) (fun o G9 h => ?_) (fun E G' h => by cases h.1)
  obtain ⟨h, D9, F9, hc, ho, hn⟩ := h
  cases h
  have g140 := F9.get (by decide) g140
  have h0 := h0.keep ho (by decide)
  have h9 := h9.keep ho (by decide)
  have h10 := h10.keep ho (by decide)
  have h11 := h11.keep ho (by decide)
  have h12 := h12.keep ho (by decide)
  have h14 := h14.keep ho (by decide)
  have h13 := hn
  clear ho hn
  refine V_aload_n rfl (by first | rfl | assumption) ?_
  refine V_iconst (v := nI 3) rfl (by decide) ?_
  refine V_bipush (v := nI 12) rfl (by decide) ?_
  refine V_bipush (v := nI 13) rfl (by decide) ?_
  refine V_callV (M' := mX12_add) (mc := 0) (ms := 0) (bc' := 0) (bs' := 0) rfl cw_X12_189 iv_X12_add (by repeat (first | exact hup_eq | assumption | refine Eq.trans (hup_ne (by first | assumption | exact Ne.symm (by assumption) | decide | omega)) ?_)) rfl rfl (Nat.le_of_ble_eq_true rfl) ⟨Nat.le_of_ble_eq_true rfl, Nat.le_of_ble_eq_true rfl⟩ ⟨Nat.le_of_ble_eq_true rfl, Nat.le_of_ble_eq_true rfl⟩ (As := [.int (nI 3), .int (nI 12), .int (nI 13)]) (c_madd (A := (mulP (subP X3 Z3) (addP X2 Z2))) (B := (mulP (addP X3 Z3) (subP X2 Z2))) (Q := fun o G10 => o = .inl none ∧ ∃ D10, FP P34 G9 G10 ∧ crM D10 G10 ∧ dO 3 D9 D10 ∧ dH D10 3 (addP (mulP (subP X3 Z3) (addP X2 Z2)) (mulP (addP X3 Z3) (subP X2 Z2)))) g140 hc (by decide) (by decide) (by decide) h12 h13 (fun G9 D9 q1 q2 q3 q4 => ⟨rfl, D9, q1, q2, q3, q4⟩)) (fun o G10 h => ?_) (fun E G' h => by cases h.1)
  obtain ⟨h, D10, F10, hc, ho, hn⟩ := h
  cases h
  have g140 := F10.get (by decide) g140
  have h0 := h0.keep ho (by decide)
  have h9 := h9.keep ho (by decide)
  have h10 := h10.keep ho (by decide)
  have h11 := h11.keep ho (by decide)
  have h12 := h12.keep ho (by decide)
  have h13 := h13.keep ho (by decide)
  have h14 := h14.keep ho (by decide)
  have h3 := hn
  clear ho hn
  refine V_aload_n rfl (by first | rfl | assumption) ?_
  refine V_iconst (v := nI 3) rfl (by decide) ?_
  refine V_iconst (v := nI 3) rfl (by decide) ?_
  refine V_iconst (v := nI 3) rfl (by decide) ?_
  refine V_callV (M' := mX12_times) (mc := 0) (ms := 0) (bc' := 0) (bs' := 0) rfl cw_X12_196 iv_X12_times (by repeat (first | exact hup_eq | assumption | refine Eq.trans (hup_ne (by first | assumption | exact Ne.symm (by assumption) | decide | omega)) ?_)) rfl rfl (Nat.le_of_ble_eq_true rfl) ⟨Nat.le_of_ble_eq_true rfl, Nat.le_of_ble_eq_true rfl⟩ ⟨Nat.le_of_ble_eq_true rfl, Nat.le_of_ble_eq_true rfl⟩ (As := [.int (nI 3), .int (nI 3), .int (nI 3)]) (c_mtimes (A := (addP (mulP (subP X3 Z3) (addP X2 Z2)) (mulP (addP X3 Z3) (subP X2 Z2)))) (B := (addP (mulP (subP X3 Z3) (addP X2 Z2)) (mulP (addP X3 Z3) (subP X2 Z2)))) (Q := fun o G11 => o = .inl none ∧ ∃ D11, FP P34 G10 G11 ∧ crM D11 G11 ∧ dO 3 D10 D11 ∧ dH D11 3 (mulP (addP (mulP (subP X3 Z3) (addP X2 Z2)) (mulP (addP X3 Z3) (subP X2 Z2))) (addP (mulP (subP X3 Z3) (addP X2 Z2)) (mulP (addP X3 Z3) (subP X2 Z2))))) g140 hc (by decide) (by decide) (by decide) h3 h3 (fun G9 D9 q1 q2 q3 q4 => ⟨rfl, D9, q1, q2, q3, q4⟩)) (fun o G11 h => ?_) (fun E G' h => by cases h.1)
  obtain ⟨h, D11, F11, hc, ho, hn⟩ := h
  cases h
  have g140 := F11.get (by decide) g140
  have h0 := h0.keep ho (by decide)
  have h9 := h9.keep ho (by decide)
  have h10 := h10.keep ho (by decide)
  have h11 := h11.keep ho (by decide)
  have h12 := h12.keep ho (by decide)
  have h13 := h13.keep ho (by decide)
  have h14 := h14.keep ho (by decide)
  have h3 := hn
  clear ho hn
  refine V_aload_n rfl (by first | rfl | assumption) ?_
  refine V_iconst (v := nI 4) rfl (by decide) ?_
  refine V_bipush (v := nI 12) rfl (by decide) ?_
  refine V_bipush (v := nI 13) rfl (by decide) ?_
  refine V_callV (M' := mX12_subtract) (mc := 0) (ms := 0) (bc' := 0) (bs' := 0) rfl cw_X12_193 iv_X12_subtract (by repeat (first | exact hup_eq | assumption | refine Eq.trans (hup_ne (by first | assumption | exact Ne.symm (by assumption) | decide | omega)) ?_)) rfl rfl (Nat.le_of_ble_eq_true rfl) ⟨Nat.le_of_ble_eq_true rfl, Nat.le_of_ble_eq_true rfl⟩ ⟨Nat.le_of_ble_eq_true rfl, Nat.le_of_ble_eq_true rfl⟩ (As := [.int (nI 4), .int (nI 12), .int (nI 13)]) (c_msub (A := (mulP (subP X3 Z3) (addP X2 Z2))) (B := (mulP (addP X3 Z3) (subP X2 Z2))) (Q := fun o G12 => o = .inl none ∧ ∃ D12, FP P34 G11 G12 ∧ crM D12 G12 ∧ dO 4 D11 D12 ∧ dH D12 4 (subP (mulP (subP X3 Z3) (addP X2 Z2)) (mulP (addP X3 Z3) (subP X2 Z2)))) g140 hc (by decide) (by decide) (by decide) h12 h13 (fun G9 D9 q1 q2 q3 q4 => ⟨rfl, D9, q1, q2, q3, q4⟩)) (fun o G12 h => ?_) (fun E G' h => by cases h.1)
  obtain ⟨h, D12, F12, hc, ho, hn⟩ := h
  cases h
  have g140 := F12.get (by decide) g140
  have h0 := h0.keep ho (by decide)
  have h3 := h3.keep ho (by decide)
  have h9 := h9.keep ho (by decide)
  have h10 := h10.keep ho (by decide)
  have h11 := h11.keep ho (by decide)
  have h14 := h14.keep ho (by decide)
  have h4 := hn
  clear ho hn
  refine V_aload_n rfl (by first | rfl | assumption) ?_
  refine V_iconst (v := nI 4) rfl (by decide) ?_
  refine V_iconst (v := nI 4) rfl (by decide) ?_
  refine V_iconst (v := nI 4) rfl (by decide) ?_
  refine V_callV (M' := mX12_times) (mc := 0) (ms := 0) (bc' := 0) (bs' := 0) rfl cw_X12_196 iv_X12_times (by repeat (first | exact hup_eq | assumption | refine Eq.trans (hup_ne (by first | assumption | exact Ne.symm (by assumption) | decide | omega)) ?_)) rfl rfl (Nat.le_of_ble_eq_true rfl) ⟨Nat.le_of_ble_eq_true rfl, Nat.le_of_ble_eq_true rfl⟩ ⟨Nat.le_of_ble_eq_true rfl, Nat.le_of_ble_eq_true rfl⟩ (As := [.int (nI 4), .int (nI 4), .int (nI 4)]) (c_mtimes (A := (subP (mulP (subP X3 Z3) (addP X2 Z2)) (mulP (addP X3 Z3) (subP X2 Z2)))) (B := (subP (mulP (subP X3 Z3) (addP X2 Z2)) (mulP (addP X3 Z3) (subP X2 Z2)))) (Q := fun o G13 => o = .inl none ∧ ∃ D13, FP P34 G12 G13 ∧ crM D13 G13 ∧ dO 4 D12 D13 ∧ dH D13 4 (mulP (subP (mulP (subP X3 Z3) (addP X2 Z2)) (mulP (addP X3 Z3) (subP X2 Z2))) (subP (mulP (subP X3 Z3) (addP X2 Z2)) (mulP (addP X3 Z3) (subP X2 Z2))))) g140 hc (by decide) (by decide) (by decide) h4 h4 (fun G9 D9 q1 q2 q3 q4 => ⟨rfl, D9, q1, q2, q3, q4⟩)) (fun o G13 h => ?_) (fun E G' h => by cases h.1)
  obtain ⟨h, D13, F13, hc, ho, hn⟩ := h
  cases h
  have g140 := F13.get (by decide) g140
  have h0 := h0.keep ho (by decide)
  have h3 := h3.keep ho (by decide)
  have h9 := h9.keep ho (by decide)
  have h10 := h10.keep ho (by decide)
  have h11 := h11.keep ho (by decide)
  have h14 := h14.keep ho (by decide)
  have h4 := hn
  clear ho hn
  refine V_aload_n rfl (by first | rfl | assumption) ?_
  refine V_iconst (v := nI 4) rfl (by decide) ?_
  refine V_iconst (v := nI 4) rfl (by decide) ?_
  refine V_iconst (v := nI 0) rfl (by decide) ?_
  refine V_callV (M' := mX12_times) (mc := 0) (ms := 0) (bc' := 0) (bs' := 0) rfl cw_X12_196 iv_X12_times (by repeat (first | exact hup_eq | assumption | refine Eq.trans (hup_ne (by first | assumption | exact Ne.symm (by assumption) | decide | omega)) ?_)) rfl rfl (Nat.le_of_ble_eq_true rfl) ⟨Nat.le_of_ble_eq_true rfl, Nat.le_of_ble_eq_true rfl⟩ ⟨Nat.le_of_ble_eq_true rfl, Nat.le_of_ble_eq_true rfl⟩ (As := [.int (nI 4), .int (nI 4), .int (nI 0)]) (c_mtimes (A := (mulP (subP (mulP (subP X3 Z3) (addP X2 Z2)) (mulP (addP X3 Z3) (subP X2 Z2))) (subP (mulP (subP X3 Z3) (addP X2 Z2)) (mulP (addP X3 Z3) (subP X2 Z2))))) (B := U0) (Q := fun o G14 => o = .inl none ∧ ∃ D14, FP P34 G13 G14 ∧ crM D14 G14 ∧ dO 4 D13 D14 ∧ dH D14 4 (mulP (mulP (subP (mulP (subP X3 Z3) (addP X2 Z2)) (mulP (addP X3 Z3) (subP X2 Z2))) (subP (mulP (subP X3 Z3) (addP X2 Z2)) (mulP (addP X3 Z3) (subP X2 Z2)))) U0)) g140 hc (by decide) (by decide) (by decide) h4 h0 (fun G9 D9 q1 q2 q3 q4 => ⟨rfl, D9, q1, q2, q3, q4⟩)) (fun o G14 h => ?_) (fun E G' h => by cases h.1)
  obtain ⟨h, D14, F14, hc, ho, hn⟩ := h
  cases h
  have g140 := F14.get (by decide) g140
  have h0 := h0.keep ho (by decide)
  have h3 := h3.keep ho (by decide)
  have h9 := h9.keep ho (by decide)
  have h10 := h10.keep ho (by decide)
  have h11 := h11.keep ho (by decide)
  have h14 := h14.keep ho (by decide)
  have h4 := hn
  clear ho hn
  refine V_aload_n rfl (by first | rfl | assumption) ?_
  refine V_iconst (v := nI 1) rfl (by decide) ?_
  refine V_bipush (v := nI 10) rfl (by decide) ?_
  refine V_bipush (v := nI 11) rfl (by decide) ?_
  refine V_callV (M' := mX12_times) (mc := 0) (ms := 0) (bc' := 0) (bs' := 0) rfl cw_X12_196 iv_X12_times (by repeat (first | exact hup_eq | assumption | refine Eq.trans (hup_ne (by first | assumption | exact Ne.symm (by assumption) | decide | omega)) ?_)) rfl rfl (Nat.le_of_ble_eq_true rfl) ⟨Nat.le_of_ble_eq_true rfl, Nat.le_of_ble_eq_true rfl⟩ ⟨Nat.le_of_ble_eq_true rfl, Nat.le_of_ble_eq_true rfl⟩ (As := [.int (nI 1), .int (nI 10), .int (nI 11)]) (c_mtimes (A := (mulP (addP X2 Z2) (addP X2 Z2))) (B := (mulP (subP X2 Z2) (subP X2 Z2))) (Q := fun o G15 => o = .inl none ∧ ∃ D15, FP P34 G14 G15 ∧ crM D15 G15 ∧ dO 1 D14 D15 ∧ dH D15 1 (mulP (mulP (addP X2 Z2) (addP X2 Z2)) (mulP (subP X2 Z2) (subP X2 Z2)))) g140 hc (by decide) (by decide) (by decide) h10 h11 (fun G9 D9 q1 q2 q3 q4 => ⟨rfl, D9, q1, q2, q3, q4⟩)) (fun o G15 h => ?_) (fun E G' h => by cases h.1)
  obtain ⟨h, D15, F15, hc, ho, hn⟩ := h
  cases h
  have g140 := F15.get (by decide) g140
  have h0 := h0.keep ho (by decide)
  have h3 := h3.keep ho (by decide)
  have h4 := h4.keep ho (by decide)
  have h9 := h9.keep ho (by decide)
  have h10 := h10.keep ho (by decide)
  have h14 := h14.keep ho (by decide)
  have h1 := hn
  clear ho hn
  refine V_aload_n rfl (by first | rfl | assumption) ?_
  refine V_iconst (v := nI 2) rfl (by decide) ?_
  refine V_bipush (v := nI 14) rfl (by decide) ?_
  refine V_bipush (v := nI 9) rfl (by decide) ?_
  refine V_callV (M' := mX12_times) (mc := 0) (ms := 0) (bc' := 0) (bs' := 0) rfl cw_X12_196 iv_X12_times (by repeat (first | exact hup_eq | assumption | refine Eq.trans (hup_ne (by first | assumption | exact Ne.symm (by assumption) | decide | omega)) ?_)) rfl rfl (Nat.le_of_ble_eq_true rfl) ⟨Nat.le_of_ble_eq_true rfl, Nat.le_of_ble_eq_true rfl⟩ ⟨Nat.le_of_ble_eq_true rfl, Nat.le_of_ble_eq_true rfl⟩ (As := [.int (nI 2), .int (nI 14), .int (nI 9)]) (c_mtimes (A := 121665) (B := (subP (mulP (addP X2 Z2) (addP X2 Z2)) (mulP (subP X2 Z2) (subP X2 Z2)))) (Q := fun o G16 => o = .inl none ∧ ∃ D16, FP P34 G15 G16 ∧ crM D16 G16 ∧ dO 2 D15 D16 ∧ dH D16 2 (mulP 121665 (subP (mulP (addP X2 Z2) (addP X2 Z2)) (mulP (subP X2 Z2) (subP X2 Z2))))) g140 hc (by decide) (by decide) (by decide) h14 h9 (fun G9 D9 q1 q2 q3 q4 => ⟨rfl, D9, q1, q2, q3, q4⟩)) (fun o G16 h => ?_) (fun E G' h => by cases h.1)
  obtain ⟨h, D16, F16, hc, ho, hn⟩ := h
  cases h
  have g140 := F16.get (by decide) g140
  have h0 := h0.keep ho (by decide)
  have h1 := h1.keep ho (by decide)
  have h3 := h3.keep ho (by decide)
  have h4 := h4.keep ho (by decide)
  have h9 := h9.keep ho (by decide)
  have h10 := h10.keep ho (by decide)
  have h14 := h14.keep ho (by decide)
  have h2 := hn
  clear ho hn
  refine V_aload_n rfl (by first | rfl | assumption) ?_
  refine V_iconst (v := nI 2) rfl (by decide) ?_
  refine V_iconst (v := nI 2) rfl (by decide) ?_
  refine V_bipush (v := nI 10) rfl (by decide) ?_
  refine V_callV (M' := mX12_add) (mc := 0) (ms := 0) (bc' := 0) (bs' := 0) rfl cw_X12_189 iv_X12_add (by repeat (first | exact hup_eq | assumption | refine Eq.trans (hup_ne (by first | assumption | exact Ne.symm (by assumption) | decide | omega)) ?_)) rfl rfl (Nat.le_of_ble_eq_true rfl) ⟨Nat.le_of_ble_eq_true rfl, Nat.le_of_ble_eq_true rfl⟩ ⟨Nat.le_of_ble_eq_true rfl, Nat.le_of_ble_eq_true rfl⟩ (As := [.int (nI 2), .int (nI 2), .int (nI 10)]) (c_madd (A := (mulP 121665 (subP (mulP (addP X2 Z2) (addP X2 Z2)) (mulP (subP X2 Z2) (subP X2 Z2))))) (B := (mulP (addP X2 Z2) (addP X2 Z2))) (Q := fun o G17 => o = .inl none ∧ ∃ D17, FP P34 G16 G17 ∧ crM D17 G17 ∧ dO 2 D16 D17 ∧ dH D17 2 (addP (mulP 121665 (subP (mulP (addP X2 Z2) (addP X2 Z2)) (mulP (subP X2 Z2) (subP X2 Z2)))) (mulP (addP X2 Z2) (addP X2 Z2)))) g140 hc (by decide) (by decide) (by decide) h2 h10 (fun G9 D9 q1 q2 q3 q4 => ⟨rfl, D9, q1, q2, q3, q4⟩)) (fun o G17 h => ?_) (fun E G' h => by cases h.1)
  obtain ⟨h, D17, F17, hc, ho, hn⟩ := h
  cases h
  have g140 := F17.get (by decide) g140
  have h0 := h0.keep ho (by decide)
  have h1 := h1.keep ho (by decide)
  have h3 := h3.keep ho (by decide)
  have h4 := h4.keep ho (by decide)
  have h9 := h9.keep ho (by decide)
  have h14 := h14.keep ho (by decide)
  have h2 := hn
  clear ho hn
  refine V_aload_n rfl (by first | rfl | assumption) ?_
  refine V_iconst (v := nI 2) rfl (by decide) ?_
  refine V_iconst (v := nI 2) rfl (by decide) ?_
  refine V_bipush (v := nI 9) rfl (by decide) ?_
  refine V_callV (M' := mX12_times) (mc := 0) (ms := 0) (bc' := 0) (bs' := 0) rfl cw_X12_196 iv_X12_times (by repeat (first | exact hup_eq | assumption | refine Eq.trans (hup_ne (by first | assumption | exact Ne.symm (by assumption) | decide | omega)) ?_)) rfl rfl (Nat.le_of_ble_eq_true rfl) ⟨Nat.le_of_ble_eq_true rfl, Nat.le_of_ble_eq_true rfl⟩ ⟨Nat.le_of_ble_eq_true rfl, Nat.le_of_ble_eq_true rfl⟩ (As := [.int (nI 2), .int (nI 2), .int (nI 9)]) (c_mtimes (A := (addP (mulP 121665 (subP (mulP (addP X2 Z2) (addP X2 Z2)) (mulP (subP X2 Z2) (subP X2 Z2)))) (mulP (addP X2 Z2) (addP X2 Z2)))) (B := (subP (mulP (addP X2 Z2) (addP X2 Z2)) (mulP (subP X2 Z2) (subP X2 Z2)))) (Q := fun o G18 => o = .inl none ∧ ∃ D18, FP P34 G17 G18 ∧ crM D18 G18 ∧ dO 2 D17 D18 ∧ dH D18 2 (mulP (addP (mulP 121665 (subP (mulP (addP X2 Z2) (addP X2 Z2)) (mulP (subP X2 Z2) (subP X2 Z2)))) (mulP (addP X2 Z2) (addP X2 Z2))) (subP (mulP (addP X2 Z2) (addP X2 Z2)) (mulP (subP X2 Z2) (subP X2 Z2))))) g140 hc (by decide) (by decide) (by decide) h2 h9 (fun G9 D9 q1 q2 q3 q4 => ⟨rfl, D9, q1, q2, q3, q4⟩)) (fun o G18 h => ?_) (fun E G' h => by cases h.1)
  obtain ⟨h, D18, F18, hc, ho, hn⟩ := h
  cases h
  have g140 := F18.get (by decide) g140
  have h0 := h0.keep ho (by decide)
  have h1 := h1.keep ho (by decide)
  have h3 := h3.keep ho (by decide)
  have h4 := h4.keep ho (by decide)
  have h14 := h14.keep ho (by decide)
  have h2 := hn
  clear ho hn
  have FF : FP P34 G G18 := (((((((((((((((((F1.trans F2 (fun _ q => q)).trans F3 (fun _ q => q)).trans F4 (fun _ q => q)).trans F5 (fun _ q => q)).trans F6 (fun _ q => q)).trans F7 (fun _ q => q)).trans F8 (fun _ q => q)).trans F9 (fun _ q => q)).trans F10 (fun _ q => q)).trans F11 (fun _ q => q)).trans F12 (fun _ q => q)).trans F13 (fun _ q => q)).trans F14 (fun _ q => q)).trans F15 (fun _ q => q)).trans F16 (fun _ q => q)).trans F17 (fun _ q => q)).trans F18 (fun _ q => q))
  refine hq _ _ FF hc h0 h14 h1 ?_ h3 ?_
  · unfold stZ2 stE; rw [mulP_comm, addP_comm]; exact h2
  · unfold stZ3; rw [mulP_comm]; exact h4
end MPt2
