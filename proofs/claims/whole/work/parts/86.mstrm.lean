/-! the reference: the stream -/
theorem lshr63 {a d : Nat} (ha : a < 2 ^ 63) (hd : d < 64) : lN a >>> ((nI d).toInt64 &&& 63) = lN (a / 2 ^ d) := by
  apply Int64.toBitVec_inj.mp
  rw [wb_c d hd]
  show (lN a).toBitVec.sshiftRight (((lN d).toBitVec.smod 64).toNat) = _
  rw [wb_tb d, wb_sm d hd, BitVec.toNat_ofNat, Nat.mod_eq_of_lt (by omega), BitVec.sshiftRight_eq_of_msb_false (by rw [BitVec.msb_eq_decide, wb_tn (by omega)]; exact decide_eq_false (by omega))]
  apply BitVec.eq_of_toNat_eq
  have h2 : a / 2 ^ d ≤ a := Nat.div_le_self _ _
  rw [BitVec.toNat_ushiftRight, wb_tn (by omega), wb_tn (by omega), Nat.shiftRight_eq_div_pow]
theorem and_hi (x : Nat) : x &&& 65280 = x / 2 ^ 8 % 2 ^ 8 * 2 ^ 8 := by
  apply Nat.eq_of_testBit_eq
  intro i
  rw [Nat.testBit_and, Nat.testBit_mul_two_pow, Nat.testBit_mod_two_pow, Nat.testBit_div_two_pow]
  by_cases h1 : i < 16
  · have : ∀ i, i < 16 → Nat.testBit 65280 i = decide (8 ≤ i) := by decide
    rw [this i h1]
    by_cases h2 : 8 ≤ i
    · simp [h2, show i - 8 < 8 by omega, show i - 8 + 8 = i by omega]
    · simp [h2]
  · have : Nat.testBit 65280 i = false := Nat.testBit_lt_two_pow (Nat.lt_of_lt_of_le (show 65280 < 2 ^ 16 by decide) (Nat.pow_le_pow_right (by decide) (by omega)))
    rw [this]
    simp [show ¬ i - 8 < 8 by omega]
/-- a word with its bytes turned round -/
def tnd (m : Nat) : Nat := m / 2 ^ 24 % 2 ^ 8 + m / 2 ^ 16 % 2 ^ 8 * 2 ^ 8 + m / 2 ^ 8 % 2 ^ 8 * 2 ^ 16 + m % 2 ^ 8 * 2 ^ 24
theorem tnd_ok {m : Nat} (hm : m < 2 ^ 32) : nI m <<< (nI 24 &&& 31) ||| (nI m &&& nI 65280) <<< (nI 8 &&& 31) ||| ((nI m).toUInt32 >>> ((nI 8).toUInt32 &&& Int32.toUInt32 31)).toInt32 &&& nI 65280 ||| ((nI m).toUInt32 >>> ((nI 24).toUInt32 &&& Int32.toUInt32 31)).toInt32 = nI (tnd m) := by
  rw [nI_shl m (by decide), nI_and m 65280 (by decide), and_hi, nI_shl _ (by decide), pk_ushrN hm _ 8 (amt32u 8 (by decide)), pk_ushrN hm _ 24 (amt32u 24 (by decide)), nI_and _ 65280 (by decide), and_hi]
  rw [show nI (m * 2 ^ 24) = nI (m % 2 ^ 8 * 2 ^ 24) from nI_inj32 (by omega)]
  rw [show m / 2 ^ 8 % 2 ^ 8 * 2 ^ 8 * 2 ^ 8 = m / 2 ^ 8 % 2 ^ 8 * 2 ^ 16 by omega]
  rw [show m / 2 ^ 8 / 2 ^ 8 % 2 ^ 8 * 2 ^ 8 = m / 2 ^ 16 % 2 ^ 8 * 2 ^ 8 by omega]
  rw [w4or (Nat.mod_lt _ (by decide)) (Nat.mod_lt _ (by decide)) (by omega)]
  unfold tnd
  congr 1
  omega
theorem tnd14 {n : Nat} (hn : n < 2 ^ 63) : tnd (n / 2 ^ 32) = p14 n 4 := by
  unfold tnd
  simp only [p14]
  omega
theorem tnd15 {n : Nat} : tnd (n % 2 ^ 32) = p15 n 4 := by
  unfold tnd
  simp only [p15]
  omega
section MStrm
variable {K : kK} {G : kG} {Q : kO → kG → Prop} {th ta os hs ps rs : Int32}
theorem c_mturned {m : Nat} (hm : m < 2 ^ 32) (hq : Q (.inl (some (.int (nI (tnd m))))) G) : C K 0 0 mX12_turned [.int (nI m)] G Q := by
  refine C_of okX12_turned (Nat.le_of_ble_eq_true rfl) ?_
  refine V_iload_n rfl (by first | rfl | assumption) ?_
  refine V_bipush (v := nI 24) rfl (by decide) ?_
  refine V_ishl rfl ?_
  refine V_iload_n rfl (by first | rfl | assumption) ?_
  refine V_ldc (v := nI 65280) rfl kc_X12_220 ?_
  refine V_iand rfl ?_
  refine V_bipush (v := nI 8) rfl (by decide) ?_
  refine V_ishl rfl ?_
  refine V_ior rfl ?_
  refine V_iload_n rfl (by first | rfl | assumption) ?_
  refine V_bipush (v := nI 8) rfl (by decide) ?_
  refine V_iushr rfl ?_
  refine V_ldc (v := nI 65280) rfl kc_X12_220 ?_
  refine V_iand rfl ?_
  refine V_ior rfl ?_
  refine V_iload_n rfl (by first | rfl | assumption) ?_
  refine V_bipush (v := nI 24) rfl (by decide) ?_
  refine V_iushr rfl ?_
  refine V_ior rfl ?_
  rw [tnd_ok hm]
  exact V_iret rfl rfl hq
theorem c_mlittle {a N s : Nat} {f : Nat → Nat} (ga : G.1 a = some (YA N f)) (hf : ∀ j, f j < 256) (hs9 : s + 4 ≤ N) (hN : N < 2 ^ 20) (hq : Q (.inl (some (.int (nI (le4 f s))))) G) : C K 0 0 mX12_little [.ref a, .int (nI s)] G Q := by
  refine C_of okX12_little (Nat.le_of_ble_eq_true rfl) ?_
  refine V_aload_n rfl (by first | rfl | assumption) ?_
  refine V_iload_n rfl (by first | rfl | assumption) ?_
  refine V_baldB rfl (by repeat (first | exact hup_eq | assumption | refine Eq.trans (hup_ne (by first | assumption | exact Ne.symm (by assumption) | decide | omega)) ?_)) rfl (by first | omega | decide) (by first | omega | decide) ?_
  refine V_sipush (v := nI 255) rfl (by decide) ?_
  refine V_bandB rfl (by first | assumption | solve_by_elim | exact Nat.mod_lt _ (by decide) | omega) ?_
  refine V_aload_n rfl (by first | rfl | assumption) ?_
  refine V_iload_n rfl (by first | rfl | assumption) ?_
  refine V_iconst (v := nI 1) rfl (by decide) ?_
  refine V_iaddN rfl ?_
  refine V_baldB rfl (by repeat (first | exact hup_eq | assumption | refine Eq.trans (hup_ne (by first | assumption | exact Ne.symm (by assumption) | decide | omega)) ?_)) rfl (by first | omega | decide) (by first | omega | decide) ?_
  refine V_sipush (v := nI 255) rfl (by decide) ?_
  refine V_bandB rfl (by first | assumption | solve_by_elim | exact Nat.mod_lt _ (by decide) | omega) ?_
  refine V_bipush (v := nI 8) rfl (by decide) ?_
  refine V_ishlN rfl (by first | omega | decide) ?_
  refine V_ior rfl ?_
  refine V_aload_n rfl (by first | rfl | assumption) ?_
  refine V_iload_n rfl (by first | rfl | assumption) ?_
  refine V_iconst (v := nI 2) rfl (by decide) ?_
  refine V_iaddN rfl ?_
  refine V_baldB rfl (by repeat (first | exact hup_eq | assumption | refine Eq.trans (hup_ne (by first | assumption | exact Ne.symm (by assumption) | decide | omega)) ?_)) rfl (by first | omega | decide) (by first | omega | decide) ?_
  refine V_sipush (v := nI 255) rfl (by decide) ?_
  refine V_bandB rfl (by first | assumption | solve_by_elim | exact Nat.mod_lt _ (by decide) | omega) ?_
  refine V_bipush (v := nI 16) rfl (by decide) ?_
  refine V_ishlN rfl (by first | omega | decide) ?_
  refine V_ior rfl ?_
  refine V_aload_n rfl (by first | rfl | assumption) ?_
  refine V_iload_n rfl (by first | rfl | assumption) ?_
  refine V_iconst (v := nI 3) rfl (by decide) ?_
  refine V_iaddN rfl ?_
  refine V_baldB rfl (by repeat (first | exact hup_eq | assumption | refine Eq.trans (hup_ne (by first | assumption | exact Ne.symm (by assumption) | decide | omega)) ?_)) rfl (by first | omega | decide) (by first | omega | decide) ?_
  refine V_bipush (v := nI 24) rfl (by decide) ?_
  refine V_ishl rfl ?_
  refine V_ior rfl ?_
  rw [bB_c3 _ (hf _), w4orL (hf _) (hf _) (hf _)]
  exact V_iret rfl rfl hq
set_option maxHeartbeats 8000000 in
theorem c_mquarter {A B C9 D : Nat} {w : Nat → Int32} (g140 : G.1 140 = some (MO th ta os hs ps rs)) (g151 : G.1 151 = some (IA 16 w)) (hA : A < 16) (hB : B < 16) (hC : C9 < 16) (hD : D < 16) (hAB : A ≠ B) (hAC : A ≠ C9) (hAD : A ≠ D) (hBC : B ≠ C9) (hBD : B ≠ D) (hCD : C9 ≠ D) (hq : Q (.inl none) (hup G 151 (IA 16 (qtr w A B C9 D)))) : C K 0 0 mX12_quarter [.ref 140, .int (nI A), .int (nI B), .int (nI C9), .int (nI D)] G Q := by
  have key : ∀ u : Nat → Int32, u A = (qr4 (w A, w B, w C9, w D)).1 → u B = (qr4 (w A, w B, w C9, w D)).2.1 → u C9 = (qr4 (w A, w B, w C9, w D)).2.2.1 → u D = (qr4 (w A, w B, w C9, w D)).2.2.2 → (∀ j, j ≠ A → j ≠ B → j ≠ C9 → j ≠ D → u j = w j) → u = qtr w A B C9 D := by
    intro u h1 h2 h3 h4 h5
    funext j
    unfold qtr
    by_cases e4 : j = D
    · subst e4; rw [pk_us]; exact h4
    · rw [pk_un e4]
      by_cases e3 : j = C9
      · subst e3; rw [pk_us]; exact h3
      · rw [pk_un e3]
        by_cases e2 : j = B
        · subst e2; rw [pk_us]; exact h2
        · rw [pk_un e2]
          by_cases e1 : j = A
          · subst e1; rw [pk_us]; exact h1
          · rw [pk_un e1]; exact h5 j e1 e2 e3 e4
  refine C_of okX12_quarter (Nat.le_of_ble_eq_true rfl) ?_
  obtain ⟨u, hu⟩ : ∃ u, u = w := ⟨_, rfl⟩
  obtain ⟨a, ha⟩ : ∃ a, a = w A := ⟨_, rfl⟩
  obtain ⟨b, hb⟩ : ∃ b, b = w B := ⟨_, rfl⟩
  obtain ⟨c, hc⟩ : ∃ c, c = w C9 := ⟨_, rfl⟩
  obtain ⟨d, hd⟩ : ∃ d, d = w D := ⟨_, rfl⟩
  have uA : u A = a := by rw [hu, ha]
  have uB : u B = b := by rw [hu, hb]
  have uC : u C9 = c := by rw [hu, hc]
  have uD : u D = d := by rw [hu, hd]
  have uo : ∀ j, j ≠ A → j ≠ B → j ≠ C9 → j ≠ D → u j = w j := fun j _ _ _ _ => by rw [hu]
  have gu : hup G 151 (IA 16 u) = G := by rw [hu]; exact hup_same g151
  rw [← ha, ← hb, ← hc, ← hd] at key
  clear hu ha hb hc hd
  rw [← gu]
  clear gu
  refine V_aload_n rfl (by first | rfl | assumption) ?_
  refine V_getf rfl rfl rfl (by repeat (first | exact hup_eq | assumption | refine Eq.trans (hup_ne (by first | assumption | exact Ne.symm (by assumption) | decide | omega)) ?_)) (by first | rfl | assumption) ?_
  refine V_iload_n rfl (by first | rfl | assumption) ?_
  refine V_aload_n rfl (by first | rfl | assumption) ?_
  refine V_getf rfl rfl rfl (by repeat (first | exact hup_eq | assumption | refine Eq.trans (hup_ne (by first | assumption | exact Ne.symm (by assumption) | decide | omega)) ?_)) (by first | rfl | assumption) ?_
  refine V_iload_n rfl (by first | rfl | assumption) ?_
  refine V_ialdJ rfl (by repeat (first | exact hup_eq | assumption | refine Eq.trans (hup_ne (by first | assumption | exact Ne.symm (by assumption) | decide | omega)) ?_)) rfl (by first | omega | decide) (by first | omega | decide) ?_
  refine V_aload_n rfl (by first | rfl | assumption) ?_
  refine V_getf rfl rfl rfl (by repeat (first | exact hup_eq | assumption | refine Eq.trans (hup_ne (by first | assumption | exact Ne.symm (by assumption) | decide | omega)) ?_)) (by first | rfl | assumption) ?_
  refine V_iload_n rfl (by first | rfl | assumption) ?_
  refine V_ialdJ rfl (by repeat (first | exact hup_eq | assumption | refine Eq.trans (hup_ne (by first | assumption | exact Ne.symm (by assumption) | decide | omega)) ?_)) rfl (by first | omega | decide) (by first | omega | decide) ?_
  refine V_iadd rfl ?_
  rw [uA, uB]
  refine V_iastJ rfl (by repeat (first | exact hup_eq | assumption | refine Eq.trans (hup_ne (by first | assumption | exact Ne.symm (by assumption) | decide | omega)) ?_)) rfl (by omega) (by decide) ?_
  rw [hup_hup]
  obtain ⟨u2, hu2⟩ : ∃ u2, u2 = upd u A (a + b) := ⟨_, rfl⟩
  have vA : u2 A = (a + b) := by rw [hu2, pk_us]
  have vB : u2 B = b := by rw [hu2, pk_un (by omega)]; exact uB
  have vC : u2 C9 = c := by rw [hu2, pk_un (by omega)]; exact uC
  have vD : u2 D = d := by rw [hu2, pk_un (by omega)]; exact uD
  have vo : ∀ j, j ≠ A → j ≠ B → j ≠ C9 → j ≠ D → u2 j = w j := fun j q1 q2 q3 q4 => by rw [hu2, pk_un (by assumption)]; exact uo j q1 q2 q3 q4
  rw [← hu2]
  clear hu2 uA uB uC uD uo u
  obtain ⟨u, hu2⟩ : ∃ u, u = u2 := ⟨_, rfl⟩
  subst hu2
  have uA := vA
  have uB := vB
  have uC := vC
  have uD := vD
  have uo := vo
  clear vA vB vC vD vo
  refine V_aload_n rfl (by first | rfl | assumption) ?_
  refine V_getf rfl rfl rfl (by repeat (first | exact hup_eq | assumption | refine Eq.trans (hup_ne (by first | assumption | exact Ne.symm (by assumption) | decide | omega)) ?_)) (by first | rfl | assumption) ?_
  refine V_iload rfl (by first | rfl | assumption) ?_
  refine V_aload_n rfl (by first | rfl | assumption) ?_
  refine V_getf rfl rfl rfl (by repeat (first | exact hup_eq | assumption | refine Eq.trans (hup_ne (by first | assumption | exact Ne.symm (by assumption) | decide | omega)) ?_)) (by first | rfl | assumption) ?_
  refine V_iload rfl (by first | rfl | assumption) ?_
  refine V_ialdJ rfl (by repeat (first | exact hup_eq | assumption | refine Eq.trans (hup_ne (by first | assumption | exact Ne.symm (by assumption) | decide | omega)) ?_)) rfl (by first | omega | decide) (by first | omega | decide) ?_
  refine V_aload_n rfl (by first | rfl | assumption) ?_
  refine V_getf rfl rfl rfl (by repeat (first | exact hup_eq | assumption | refine Eq.trans (hup_ne (by first | assumption | exact Ne.symm (by assumption) | decide | omega)) ?_)) (by first | rfl | assumption) ?_
  refine V_iload_n rfl (by first | rfl | assumption) ?_
  refine V_ialdJ rfl (by repeat (first | exact hup_eq | assumption | refine Eq.trans (hup_ne (by first | assumption | exact Ne.symm (by assumption) | decide | omega)) ?_)) rfl (by first | omega | decide) (by first | omega | decide) ?_
  refine V_ixor rfl ?_
  refine V_bipush (v := nI 16) rfl (by decide) ?_
  rw [uD, uA]
  refine V_callS (M' := mX12_left) (mc := 0) (ms := 0) (bc' := 0) (bs' := 0) rfl cw_X12_217 is_X12_left rfl (Nat.le_of_ble_eq_true rfl) ⟨Nat.le_of_ble_eq_true rfl, Nat.le_of_ble_eq_true rfl⟩ ⟨Nat.le_of_ble_eq_true rfl, Nat.le_of_ble_eq_true rfl⟩ (As := [.int (d ^^^ (a + b)), .int (nI 16)]) (c_mleft (Q := fun o G9 => o = .inl (some (.int (lrot (d ^^^ (a + b)) 16 16))) ∧ G9 = hup G 151 (IA 16 u)) (by decide) ⟨rfl, rfl⟩) (fun o G9 h => ?_) (fun E G' h => by cases h.1)
  obtain ⟨h, rfl⟩ := h
  cases h
  refine V_iastJ rfl (by repeat (first | exact hup_eq | assumption | refine Eq.trans (hup_ne (by first | assumption | exact Ne.symm (by assumption) | decide | omega)) ?_)) rfl (by omega) (by decide) ?_
  rw [hup_hup]
  obtain ⟨u2, hu2⟩ : ∃ u2, u2 = upd u D (lrot (d ^^^ (a + b)) 16 16) := ⟨_, rfl⟩
  have vA : u2 A = (a + b) := by rw [hu2, pk_un (by omega)]; exact uA
  have vB : u2 B = b := by rw [hu2, pk_un (by omega)]; exact uB
  have vC : u2 C9 = c := by rw [hu2, pk_un (by omega)]; exact uC
  have vD : u2 D = (lrot (d ^^^ (a + b)) 16 16) := by rw [hu2, pk_us]
  have vo : ∀ j, j ≠ A → j ≠ B → j ≠ C9 → j ≠ D → u2 j = w j := fun j q1 q2 q3 q4 => by rw [hu2, pk_un (by assumption)]; exact uo j q1 q2 q3 q4
  rw [← hu2]
  clear hu2 uA uB uC uD uo u
  obtain ⟨u, hu2⟩ : ∃ u, u = u2 := ⟨_, rfl⟩
  subst hu2
  have uA := vA
  have uB := vB
  have uC := vC
  have uD := vD
  have uo := vo
  clear vA vB vC vD vo
  refine V_aload_n rfl (by first | rfl | assumption) ?_
  refine V_getf rfl rfl rfl (by repeat (first | exact hup_eq | assumption | refine Eq.trans (hup_ne (by first | assumption | exact Ne.symm (by assumption) | decide | omega)) ?_)) (by first | rfl | assumption) ?_
  refine V_iload_n rfl (by first | rfl | assumption) ?_
  refine V_aload_n rfl (by first | rfl | assumption) ?_
  refine V_getf rfl rfl rfl (by repeat (first | exact hup_eq | assumption | refine Eq.trans (hup_ne (by first | assumption | exact Ne.symm (by assumption) | decide | omega)) ?_)) (by first | rfl | assumption) ?_
  refine V_iload_n rfl (by first | rfl | assumption) ?_
  refine V_ialdJ rfl (by repeat (first | exact hup_eq | assumption | refine Eq.trans (hup_ne (by first | assumption | exact Ne.symm (by assumption) | decide | omega)) ?_)) rfl (by first | omega | decide) (by first | omega | decide) ?_
  refine V_aload_n rfl (by first | rfl | assumption) ?_
  refine V_getf rfl rfl rfl (by repeat (first | exact hup_eq | assumption | refine Eq.trans (hup_ne (by first | assumption | exact Ne.symm (by assumption) | decide | omega)) ?_)) (by first | rfl | assumption) ?_
  refine V_iload rfl (by first | rfl | assumption) ?_
  refine V_ialdJ rfl (by repeat (first | exact hup_eq | assumption | refine Eq.trans (hup_ne (by first | assumption | exact Ne.symm (by assumption) | decide | omega)) ?_)) rfl (by first | omega | decide) (by first | omega | decide) ?_
  refine V_iadd rfl ?_
  rw [uC, uD]
  refine V_iastJ rfl (by repeat (first | exact hup_eq | assumption | refine Eq.trans (hup_ne (by first | assumption | exact Ne.symm (by assumption) | decide | omega)) ?_)) rfl (by omega) (by decide) ?_
  rw [hup_hup]
  obtain ⟨u2, hu2⟩ : ∃ u2, u2 = upd u C9 (c + (lrot (d ^^^ (a + b)) 16 16)) := ⟨_, rfl⟩
  have vA : u2 A = (a + b) := by rw [hu2, pk_un (by omega)]; exact uA
  have vB : u2 B = b := by rw [hu2, pk_un (by omega)]; exact uB
  have vC : u2 C9 = (c + (lrot (d ^^^ (a + b)) 16 16)) := by rw [hu2, pk_us]
  have vD : u2 D = (lrot (d ^^^ (a + b)) 16 16) := by rw [hu2, pk_un (by omega)]; exact uD
  have vo : ∀ j, j ≠ A → j ≠ B → j ≠ C9 → j ≠ D → u2 j = w j := fun j q1 q2 q3 q4 => by rw [hu2, pk_un (by assumption)]; exact uo j q1 q2 q3 q4
  rw [← hu2]
  clear hu2 uA uB uC uD uo u
  obtain ⟨u, hu2⟩ : ∃ u, u = u2 := ⟨_, rfl⟩
  subst hu2
  have uA := vA
  have uB := vB
  have uC := vC
  have uD := vD
  have uo := vo
  clear vA vB vC vD vo
  refine V_aload_n rfl (by first | rfl | assumption) ?_
  refine V_getf rfl rfl rfl (by repeat (first | exact hup_eq | assumption | refine Eq.trans (hup_ne (by first | assumption | exact Ne.symm (by assumption) | decide | omega)) ?_)) (by first | rfl | assumption) ?_
  refine V_iload_n rfl (by first | rfl | assumption) ?_
  refine V_aload_n rfl (by first | rfl | assumption) ?_
  refine V_getf rfl rfl rfl (by repeat (first | exact hup_eq | assumption | refine Eq.trans (hup_ne (by first | assumption | exact Ne.symm (by assumption) | decide | omega)) ?_)) (by first | rfl | assumption) ?_
  refine V_iload_n rfl (by first | rfl | assumption) ?_
  refine V_ialdJ rfl (by repeat (first | exact hup_eq | assumption | refine Eq.trans (hup_ne (by first | assumption | exact Ne.symm (by assumption) | decide | omega)) ?_)) rfl (by first | omega | decide) (by first | omega | decide) ?_
  refine V_aload_n rfl (by first | rfl | assumption) ?_
  refine V_getf rfl rfl rfl (by repeat (first | exact hup_eq | assumption | refine Eq.trans (hup_ne (by first | assumption | exact Ne.symm (by assumption) | decide | omega)) ?_)) (by first | rfl | assumption) ?_
  refine V_iload_n rfl (by first | rfl | assumption) ?_
  refine V_ialdJ rfl (by repeat (first | exact hup_eq | assumption | refine Eq.trans (hup_ne (by first | assumption | exact Ne.symm (by assumption) | decide | omega)) ?_)) rfl (by first | omega | decide) (by first | omega | decide) ?_
  refine V_ixor rfl ?_
  refine V_bipush (v := nI 12) rfl (by decide) ?_
  rw [uB, uC]
  refine V_callS (M' := mX12_left) (mc := 0) (ms := 0) (bc' := 0) (bs' := 0) rfl cw_X12_217 is_X12_left rfl (Nat.le_of_ble_eq_true rfl) ⟨Nat.le_of_ble_eq_true rfl, Nat.le_of_ble_eq_true rfl⟩ ⟨Nat.le_of_ble_eq_true rfl, Nat.le_of_ble_eq_true rfl⟩ (As := [.int (b ^^^ (c + (lrot (d ^^^ (a + b)) 16 16))), .int (nI 12)]) (c_mleft (Q := fun o G9 => o = .inl (some (.int (lrot (b ^^^ (c + (lrot (d ^^^ (a + b)) 16 16))) 12 20))) ∧ G9 = hup G 151 (IA 16 u)) (by decide) ⟨rfl, rfl⟩) (fun o G9 h => ?_) (fun E G' h => by cases h.1)
  obtain ⟨h, rfl⟩ := h
  cases h
  refine V_iastJ rfl (by repeat (first | exact hup_eq | assumption | refine Eq.trans (hup_ne (by first | assumption | exact Ne.symm (by assumption) | decide | omega)) ?_)) rfl (by omega) (by decide) ?_
  rw [hup_hup]
  obtain ⟨u2, hu2⟩ : ∃ u2, u2 = upd u B (lrot (b ^^^ (c + (lrot (d ^^^ (a + b)) 16 16))) 12 20) := ⟨_, rfl⟩
  have vA : u2 A = (a + b) := by rw [hu2, pk_un (by omega)]; exact uA
  have vB : u2 B = (lrot (b ^^^ (c + (lrot (d ^^^ (a + b)) 16 16))) 12 20) := by rw [hu2, pk_us]
  have vC : u2 C9 = (c + (lrot (d ^^^ (a + b)) 16 16)) := by rw [hu2, pk_un (by omega)]; exact uC
  have vD : u2 D = (lrot (d ^^^ (a + b)) 16 16) := by rw [hu2, pk_un (by omega)]; exact uD
  have vo : ∀ j, j ≠ A → j ≠ B → j ≠ C9 → j ≠ D → u2 j = w j := fun j q1 q2 q3 q4 => by rw [hu2, pk_un (by assumption)]; exact uo j q1 q2 q3 q4
  rw [← hu2]
  clear hu2 uA uB uC uD uo u
  obtain ⟨u, hu2⟩ : ∃ u, u = u2 := ⟨_, rfl⟩
  subst hu2
  have uA := vA
  have uB := vB
  have uC := vC
  have uD := vD
  have uo := vo
  clear vA vB vC vD vo
  refine V_aload_n rfl (by first | rfl | assumption) ?_
  refine V_getf rfl rfl rfl (by repeat (first | exact hup_eq | assumption | refine Eq.trans (hup_ne (by first | assumption | exact Ne.symm (by assumption) | decide | omega)) ?_)) (by first | rfl | assumption) ?_
  refine V_iload_n rfl (by first | rfl | assumption) ?_
  refine V_aload_n rfl (by first | rfl | assumption) ?_
  refine V_getf rfl rfl rfl (by repeat (first | exact hup_eq | assumption | refine Eq.trans (hup_ne (by first | assumption | exact Ne.symm (by assumption) | decide | omega)) ?_)) (by first | rfl | assumption) ?_
  refine V_iload_n rfl (by first | rfl | assumption) ?_
  refine V_ialdJ rfl (by repeat (first | exact hup_eq | assumption | refine Eq.trans (hup_ne (by first | assumption | exact Ne.symm (by assumption) | decide | omega)) ?_)) rfl (by first | omega | decide) (by first | omega | decide) ?_
  refine V_aload_n rfl (by first | rfl | assumption) ?_
  refine V_getf rfl rfl rfl (by repeat (first | exact hup_eq | assumption | refine Eq.trans (hup_ne (by first | assumption | exact Ne.symm (by assumption) | decide | omega)) ?_)) (by first | rfl | assumption) ?_
  refine V_iload_n rfl (by first | rfl | assumption) ?_
  refine V_ialdJ rfl (by repeat (first | exact hup_eq | assumption | refine Eq.trans (hup_ne (by first | assumption | exact Ne.symm (by assumption) | decide | omega)) ?_)) rfl (by first | omega | decide) (by first | omega | decide) ?_
  refine V_iadd rfl ?_
  rw [uA, uB]
  refine V_iastJ rfl (by repeat (first | exact hup_eq | assumption | refine Eq.trans (hup_ne (by first | assumption | exact Ne.symm (by assumption) | decide | omega)) ?_)) rfl (by omega) (by decide) ?_
  rw [hup_hup]
  obtain ⟨u2, hu2⟩ : ∃ u2, u2 = upd u A ((a + b) + (lrot (b ^^^ (c + (lrot (d ^^^ (a + b)) 16 16))) 12 20)) := ⟨_, rfl⟩
  have vA : u2 A = ((a + b) + (lrot (b ^^^ (c + (lrot (d ^^^ (a + b)) 16 16))) 12 20)) := by rw [hu2, pk_us]
  have vB : u2 B = (lrot (b ^^^ (c + (lrot (d ^^^ (a + b)) 16 16))) 12 20) := by rw [hu2, pk_un (by omega)]; exact uB
  have vC : u2 C9 = (c + (lrot (d ^^^ (a + b)) 16 16)) := by rw [hu2, pk_un (by omega)]; exact uC
  have vD : u2 D = (lrot (d ^^^ (a + b)) 16 16) := by rw [hu2, pk_un (by omega)]; exact uD
  have vo : ∀ j, j ≠ A → j ≠ B → j ≠ C9 → j ≠ D → u2 j = w j := fun j q1 q2 q3 q4 => by rw [hu2, pk_un (by assumption)]; exact uo j q1 q2 q3 q4
  rw [← hu2]
  clear hu2 uA uB uC uD uo u
  obtain ⟨u, hu2⟩ : ∃ u, u = u2 := ⟨_, rfl⟩
  subst hu2
  have uA := vA
  have uB := vB
  have uC := vC
  have uD := vD
  have uo := vo
  clear vA vB vC vD vo
  refine V_aload_n rfl (by first | rfl | assumption) ?_
  refine V_getf rfl rfl rfl (by repeat (first | exact hup_eq | assumption | refine Eq.trans (hup_ne (by first | assumption | exact Ne.symm (by assumption) | decide | omega)) ?_)) (by first | rfl | assumption) ?_
  refine V_iload rfl (by first | rfl | assumption) ?_
  refine V_aload_n rfl (by first | rfl | assumption) ?_
  refine V_getf rfl rfl rfl (by repeat (first | exact hup_eq | assumption | refine Eq.trans (hup_ne (by first | assumption | exact Ne.symm (by assumption) | decide | omega)) ?_)) (by first | rfl | assumption) ?_
  refine V_iload rfl (by first | rfl | assumption) ?_
  refine V_ialdJ rfl (by repeat (first | exact hup_eq | assumption | refine Eq.trans (hup_ne (by first | assumption | exact Ne.symm (by assumption) | decide | omega)) ?_)) rfl (by first | omega | decide) (by first | omega | decide) ?_
  refine V_aload_n rfl (by first | rfl | assumption) ?_
  refine V_getf rfl rfl rfl (by repeat (first | exact hup_eq | assumption | refine Eq.trans (hup_ne (by first | assumption | exact Ne.symm (by assumption) | decide | omega)) ?_)) (by first | rfl | assumption) ?_
  refine V_iload_n rfl (by first | rfl | assumption) ?_
  refine V_ialdJ rfl (by repeat (first | exact hup_eq | assumption | refine Eq.trans (hup_ne (by first | assumption | exact Ne.symm (by assumption) | decide | omega)) ?_)) rfl (by first | omega | decide) (by first | omega | decide) ?_
  refine V_ixor rfl ?_
  refine V_bipush (v := nI 8) rfl (by decide) ?_
  rw [uD, uA]
  refine V_callS (M' := mX12_left) (mc := 0) (ms := 0) (bc' := 0) (bs' := 0) rfl cw_X12_217 is_X12_left rfl (Nat.le_of_ble_eq_true rfl) ⟨Nat.le_of_ble_eq_true rfl, Nat.le_of_ble_eq_true rfl⟩ ⟨Nat.le_of_ble_eq_true rfl, Nat.le_of_ble_eq_true rfl⟩ (As := [.int ((lrot (d ^^^ (a + b)) 16 16) ^^^ ((a + b) + (lrot (b ^^^ (c + (lrot (d ^^^ (a + b)) 16 16))) 12 20))), .int (nI 8)]) (c_mleft (Q := fun o G9 => o = .inl (some (.int (lrot ((lrot (d ^^^ (a + b)) 16 16) ^^^ ((a + b) + (lrot (b ^^^ (c + (lrot (d ^^^ (a + b)) 16 16))) 12 20))) 8 24))) ∧ G9 = hup G 151 (IA 16 u)) (by decide) ⟨rfl, rfl⟩) (fun o G9 h => ?_) (fun E G' h => by cases h.1)
  obtain ⟨h, rfl⟩ := h
  cases h
  refine V_iastJ rfl (by repeat (first | exact hup_eq | assumption | refine Eq.trans (hup_ne (by first | assumption | exact Ne.symm (by assumption) | decide | omega)) ?_)) rfl (by omega) (by decide) ?_
  rw [hup_hup]
  obtain ⟨u2, hu2⟩ : ∃ u2, u2 = upd u D (lrot ((lrot (d ^^^ (a + b)) 16 16) ^^^ ((a + b) + (lrot (b ^^^ (c + (lrot (d ^^^ (a + b)) 16 16))) 12 20))) 8 24) := ⟨_, rfl⟩
  have vA : u2 A = ((a + b) + (lrot (b ^^^ (c + (lrot (d ^^^ (a + b)) 16 16))) 12 20)) := by rw [hu2, pk_un (by omega)]; exact uA
  have vB : u2 B = (lrot (b ^^^ (c + (lrot (d ^^^ (a + b)) 16 16))) 12 20) := by rw [hu2, pk_un (by omega)]; exact uB
  have vC : u2 C9 = (c + (lrot (d ^^^ (a + b)) 16 16)) := by rw [hu2, pk_un (by omega)]; exact uC
  have vD : u2 D = (lrot ((lrot (d ^^^ (a + b)) 16 16) ^^^ ((a + b) + (lrot (b ^^^ (c + (lrot (d ^^^ (a + b)) 16 16))) 12 20))) 8 24) := by rw [hu2, pk_us]
  have vo : ∀ j, j ≠ A → j ≠ B → j ≠ C9 → j ≠ D → u2 j = w j := fun j q1 q2 q3 q4 => by rw [hu2, pk_un (by assumption)]; exact uo j q1 q2 q3 q4
  rw [← hu2]
  clear hu2 uA uB uC uD uo u
  obtain ⟨u, hu2⟩ : ∃ u, u = u2 := ⟨_, rfl⟩
  subst hu2
  have uA := vA
  have uB := vB
  have uC := vC
  have uD := vD
  have uo := vo
  clear vA vB vC vD vo
  refine V_aload_n rfl (by first | rfl | assumption) ?_
  refine V_getf rfl rfl rfl (by repeat (first | exact hup_eq | assumption | refine Eq.trans (hup_ne (by first | assumption | exact Ne.symm (by assumption) | decide | omega)) ?_)) (by first | rfl | assumption) ?_
  refine V_iload_n rfl (by first | rfl | assumption) ?_
  refine V_aload_n rfl (by first | rfl | assumption) ?_
  refine V_getf rfl rfl rfl (by repeat (first | exact hup_eq | assumption | refine Eq.trans (hup_ne (by first | assumption | exact Ne.symm (by assumption) | decide | omega)) ?_)) (by first | rfl | assumption) ?_
  refine V_iload_n rfl (by first | rfl | assumption) ?_
  refine V_ialdJ rfl (by repeat (first | exact hup_eq | assumption | refine Eq.trans (hup_ne (by first | assumption | exact Ne.symm (by assumption) | decide | omega)) ?_)) rfl (by first | omega | decide) (by first | omega | decide) ?_
  refine V_aload_n rfl (by first | rfl | assumption) ?_
  refine V_getf rfl rfl rfl (by repeat (first | exact hup_eq | assumption | refine Eq.trans (hup_ne (by first | assumption | exact Ne.symm (by assumption) | decide | omega)) ?_)) (by first | rfl | assumption) ?_
  refine V_iload rfl (by first | rfl | assumption) ?_
  refine V_ialdJ rfl (by repeat (first | exact hup_eq | assumption | refine Eq.trans (hup_ne (by first | assumption | exact Ne.symm (by assumption) | decide | omega)) ?_)) rfl (by first | omega | decide) (by first | omega | decide) ?_
  refine V_iadd rfl ?_
  rw [uC, uD]
  refine V_iastJ rfl (by repeat (first | exact hup_eq | assumption | refine Eq.trans (hup_ne (by first | assumption | exact Ne.symm (by assumption) | decide | omega)) ?_)) rfl (by omega) (by decide) ?_
  rw [hup_hup]
  obtain ⟨u2, hu2⟩ : ∃ u2, u2 = upd u C9 ((c + (lrot (d ^^^ (a + b)) 16 16)) + (lrot ((lrot (d ^^^ (a + b)) 16 16) ^^^ ((a + b) + (lrot (b ^^^ (c + (lrot (d ^^^ (a + b)) 16 16))) 12 20))) 8 24)) := ⟨_, rfl⟩
  have vA : u2 A = ((a + b) + (lrot (b ^^^ (c + (lrot (d ^^^ (a + b)) 16 16))) 12 20)) := by rw [hu2, pk_un (by omega)]; exact uA
  have vB : u2 B = (lrot (b ^^^ (c + (lrot (d ^^^ (a + b)) 16 16))) 12 20) := by rw [hu2, pk_un (by omega)]; exact uB
  have vC : u2 C9 = ((c + (lrot (d ^^^ (a + b)) 16 16)) + (lrot ((lrot (d ^^^ (a + b)) 16 16) ^^^ ((a + b) + (lrot (b ^^^ (c + (lrot (d ^^^ (a + b)) 16 16))) 12 20))) 8 24)) := by rw [hu2, pk_us]
  have vD : u2 D = (lrot ((lrot (d ^^^ (a + b)) 16 16) ^^^ ((a + b) + (lrot (b ^^^ (c + (lrot (d ^^^ (a + b)) 16 16))) 12 20))) 8 24) := by rw [hu2, pk_un (by omega)]; exact uD
  have vo : ∀ j, j ≠ A → j ≠ B → j ≠ C9 → j ≠ D → u2 j = w j := fun j q1 q2 q3 q4 => by rw [hu2, pk_un (by assumption)]; exact uo j q1 q2 q3 q4
  rw [← hu2]
  clear hu2 uA uB uC uD uo u
  obtain ⟨u, hu2⟩ : ∃ u, u = u2 := ⟨_, rfl⟩
  subst hu2
  have uA := vA
  have uB := vB
  have uC := vC
  have uD := vD
  have uo := vo
  clear vA vB vC vD vo
  refine V_aload_n rfl (by first | rfl | assumption) ?_
  refine V_getf rfl rfl rfl (by repeat (first | exact hup_eq | assumption | refine Eq.trans (hup_ne (by first | assumption | exact Ne.symm (by assumption) | decide | omega)) ?_)) (by first | rfl | assumption) ?_
  refine V_iload_n rfl (by first | rfl | assumption) ?_
  refine V_aload_n rfl (by first | rfl | assumption) ?_
  refine V_getf rfl rfl rfl (by repeat (first | exact hup_eq | assumption | refine Eq.trans (hup_ne (by first | assumption | exact Ne.symm (by assumption) | decide | omega)) ?_)) (by first | rfl | assumption) ?_
  refine V_iload_n rfl (by first | rfl | assumption) ?_
  refine V_ialdJ rfl (by repeat (first | exact hup_eq | assumption | refine Eq.trans (hup_ne (by first | assumption | exact Ne.symm (by assumption) | decide | omega)) ?_)) rfl (by first | omega | decide) (by first | omega | decide) ?_
  refine V_aload_n rfl (by first | rfl | assumption) ?_
  refine V_getf rfl rfl rfl (by repeat (first | exact hup_eq | assumption | refine Eq.trans (hup_ne (by first | assumption | exact Ne.symm (by assumption) | decide | omega)) ?_)) (by first | rfl | assumption) ?_
  refine V_iload_n rfl (by first | rfl | assumption) ?_
  refine V_ialdJ rfl (by repeat (first | exact hup_eq | assumption | refine Eq.trans (hup_ne (by first | assumption | exact Ne.symm (by assumption) | decide | omega)) ?_)) rfl (by first | omega | decide) (by first | omega | decide) ?_
  refine V_ixor rfl ?_
  refine V_bipush (v := nI 7) rfl (by decide) ?_
  rw [uB, uC]
  refine V_callS (M' := mX12_left) (mc := 0) (ms := 0) (bc' := 0) (bs' := 0) rfl cw_X12_217 is_X12_left rfl (Nat.le_of_ble_eq_true rfl) ⟨Nat.le_of_ble_eq_true rfl, Nat.le_of_ble_eq_true rfl⟩ ⟨Nat.le_of_ble_eq_true rfl, Nat.le_of_ble_eq_true rfl⟩ (As := [.int ((lrot (b ^^^ (c + (lrot (d ^^^ (a + b)) 16 16))) 12 20) ^^^ ((c + (lrot (d ^^^ (a + b)) 16 16)) + (lrot ((lrot (d ^^^ (a + b)) 16 16) ^^^ ((a + b) + (lrot (b ^^^ (c + (lrot (d ^^^ (a + b)) 16 16))) 12 20))) 8 24))), .int (nI 7)]) (c_mleft (Q := fun o G9 => o = .inl (some (.int (lrot ((lrot (b ^^^ (c + (lrot (d ^^^ (a + b)) 16 16))) 12 20) ^^^ ((c + (lrot (d ^^^ (a + b)) 16 16)) + (lrot ((lrot (d ^^^ (a + b)) 16 16) ^^^ ((a + b) + (lrot (b ^^^ (c + (lrot (d ^^^ (a + b)) 16 16))) 12 20))) 8 24))) 7 25))) ∧ G9 = hup G 151 (IA 16 u)) (by decide) ⟨rfl, rfl⟩) (fun o G9 h => ?_) (fun E G' h => by cases h.1)
  obtain ⟨h, rfl⟩ := h
  cases h
  refine V_iastJ rfl (by repeat (first | exact hup_eq | assumption | refine Eq.trans (hup_ne (by first | assumption | exact Ne.symm (by assumption) | decide | omega)) ?_)) rfl (by omega) (by decide) ?_
  rw [hup_hup]
  obtain ⟨u2, hu2⟩ : ∃ u2, u2 = upd u B (lrot ((lrot (b ^^^ (c + (lrot (d ^^^ (a + b)) 16 16))) 12 20) ^^^ ((c + (lrot (d ^^^ (a + b)) 16 16)) + (lrot ((lrot (d ^^^ (a + b)) 16 16) ^^^ ((a + b) + (lrot (b ^^^ (c + (lrot (d ^^^ (a + b)) 16 16))) 12 20))) 8 24))) 7 25) := ⟨_, rfl⟩
  have vA : u2 A = ((a + b) + (lrot (b ^^^ (c + (lrot (d ^^^ (a + b)) 16 16))) 12 20)) := by rw [hu2, pk_un (by omega)]; exact uA
  have vB : u2 B = (lrot ((lrot (b ^^^ (c + (lrot (d ^^^ (a + b)) 16 16))) 12 20) ^^^ ((c + (lrot (d ^^^ (a + b)) 16 16)) + (lrot ((lrot (d ^^^ (a + b)) 16 16) ^^^ ((a + b) + (lrot (b ^^^ (c + (lrot (d ^^^ (a + b)) 16 16))) 12 20))) 8 24))) 7 25) := by rw [hu2, pk_us]
  have vC : u2 C9 = ((c + (lrot (d ^^^ (a + b)) 16 16)) + (lrot ((lrot (d ^^^ (a + b)) 16 16) ^^^ ((a + b) + (lrot (b ^^^ (c + (lrot (d ^^^ (a + b)) 16 16))) 12 20))) 8 24)) := by rw [hu2, pk_un (by omega)]; exact uC
  have vD : u2 D = (lrot ((lrot (d ^^^ (a + b)) 16 16) ^^^ ((a + b) + (lrot (b ^^^ (c + (lrot (d ^^^ (a + b)) 16 16))) 12 20))) 8 24) := by rw [hu2, pk_un (by omega)]; exact uD
  have vo : ∀ j, j ≠ A → j ≠ B → j ≠ C9 → j ≠ D → u2 j = w j := fun j q1 q2 q3 q4 => by rw [hu2, pk_un (by assumption)]; exact uo j q1 q2 q3 q4
  rw [← hu2]
  clear hu2 uA uB uC uD uo u
  obtain ⟨u, hu2⟩ : ∃ u, u = u2 := ⟨_, rfl⟩
  subst hu2
  have uA := vA
  have uB := vB
  have uC := vC
  have uD := vD
  have uo := vo
  clear vA vB vC vD vo
  rw [key u uA uB uC uD uo]
  exact V_vret rfl rfl hq
/-- the stream's rows -/
def sM (G : kG) : Prop := (∃ f, G.1 150 = some (IA 16 f)) ∧ (∃ f, G.1 151 = some (IA 16 f)) ∧ ∃ f, G.1 152 = some (YA 64 f) ∧ ∀ j, f j < 256
abbrev PS (j : Nat) : Prop := j = 150 ∨ j = 151 ∨ j = 152
/-- the order of the quarters -/
def qtO (qt : Nat → Nat) : Prop := ∀ m, m < 4 → (qt (4 * m) = m ∧ qt (4 * m + 1) = 4 + m ∧ qt (4 * m + 2) = 8 + m ∧ qt (4 * m + 3) = 12 + m) ∧ (qt (4 * (4 + m)) = m ∧ qt (4 * (4 + m) + 1) = 4 + (m + 1) % 4 ∧ qt (4 * (4 + m) + 2) = 8 + (m + 2) % 4 ∧ qt (4 * (4 + m) + 3) = 12 + (m + 3) % 4)
theorem qrs_congr {qt : Nat → Nat} (hqt : qtO qt) {w w' : Nat → Int32} (h : ∀ j, j < 16 → w j = w' j) : ∀ n, n ≤ 8 → ∀ j, j < 16 → qrs qt w n j = qrs qt w' n j := by
  refine dbl_lt16 (fun j hj => ?_) h
  have h1 := hqt (j / 4 % 4) (by omega)
  by_cases z : j < 16
  · have : j / 4 % 4 = j / 4 := by omega
    rw [this] at h1
    have e : j = 4 * (j / 4) ∨ j = 4 * (j / 4) + 1 ∨ j = 4 * (j / 4) + 2 ∨ j = 4 * (j / 4) + 3 := by omega
    rcases e with e | e | e | e <;> rw [e] <;> omega
  · have : 4 + j / 4 % 4 = j / 4 := by omega
    rw [this] at h1
    have e : j = 4 * (j / 4) ∨ j = 4 * (j / 4) + 1 ∨ j = 4 * (j / 4) + 2 ∨ j = 4 * (j / 4) + 3 := by omega
    rcases e with e | e | e | e <;> rw [e] <;> omega
set_option maxHeartbeats 8000000 in
theorem c_mstream {kc N at9 n c : Nat} {key qt : Nat → Nat} (hqt : qtO qt) (g140 : G.1 140 = some (MO th ta os hs ps rs)) (hs9 : sM G) (gk : G.1 kc = some (YA N key)) (hkc : kc ≠ 150 ∧ kc ≠ 140) (hN : at9 + 32 ≤ N ∧ N < 2 ^ 20) (hkb : ∀ j, key j < 256) (hn : n < 2 ^ 63)
    (hq : ∀ G' f, FP PS G G' → sM G' → G'.1 152 = some (YA 64 f) → (∀ j, f j < 256) → (∀ j, j < 64 → f j = STRM qt (sft key at9) n c j) → Q (.inl none) G') : C K 0 0 mX12_makeStream [.ref 140, .ref kc, .int (nI at9), .long (lN n), .int (nI c)] G Q := by
  obtain ⟨⟨f0, g150⟩, ⟨w0, g151⟩, b0, g152, hb0⟩ := hs9
  obtain ⟨t1, t2⟩ := hkc
  refine C_of okX12_makeStream (Nat.le_of_ble_eq_true rfl) ?_
  refine V_aload_n rfl (by first | rfl | assumption) ?_
  refine V_getf rfl rfl rfl (by repeat (first | exact hup_eq | assumption | refine Eq.trans (hup_ne (by first | assumption | exact Ne.symm (by assumption) | decide | omega)) ?_)) (by first | rfl | assumption) ?_
  refine V_iconst (v := nI 0) rfl (by decide) ?_
  refine V_ldc (v := nI 1634760805) rfl kc_X12_221 ?_
  refine V_iastJ rfl (by repeat (first | exact hup_eq | assumption | refine Eq.trans (hup_ne (by first | assumption | exact Ne.symm (by assumption) | decide | omega)) ?_)) rfl (by first | omega | decide) (by first | omega | decide) ?_
  refine V_aload_n rfl (by first | rfl | assumption) ?_
  refine V_getf rfl rfl rfl (by repeat (first | exact hup_eq | assumption | refine Eq.trans (hup_ne (by first | assumption | exact Ne.symm (by assumption) | decide | omega)) ?_)) (by first | rfl | assumption) ?_
  refine V_iconst (v := nI 1) rfl (by decide) ?_
  refine V_ldc (v := nI 857760878) rfl kc_X12_222 ?_
  refine V_iastJ rfl (by repeat (first | exact hup_eq | assumption | refine Eq.trans (hup_ne (by first | assumption | exact Ne.symm (by assumption) | decide | omega)) ?_)) rfl (by first | omega | decide) (by first | omega | decide) ?_
  refine V_aload_n rfl (by first | rfl | assumption) ?_
  refine V_getf rfl rfl rfl (by repeat (first | exact hup_eq | assumption | refine Eq.trans (hup_ne (by first | assumption | exact Ne.symm (by assumption) | decide | omega)) ?_)) (by first | rfl | assumption) ?_
  refine V_iconst (v := nI 2) rfl (by decide) ?_
  refine V_ldc (v := nI 2036477234) rfl kc_X12_223 ?_
  refine V_iastJ rfl (by repeat (first | exact hup_eq | assumption | refine Eq.trans (hup_ne (by first | assumption | exact Ne.symm (by assumption) | decide | omega)) ?_)) rfl (by first | omega | decide) (by first | omega | decide) ?_
  refine V_aload_n rfl (by first | rfl | assumption) ?_
  refine V_getf rfl rfl rfl (by repeat (first | exact hup_eq | assumption | refine Eq.trans (hup_ne (by first | assumption | exact Ne.symm (by assumption) | decide | omega)) ?_)) (by first | rfl | assumption) ?_
  refine V_iconst (v := nI 3) rfl (by decide) ?_
  refine V_ldc (v := nI 1797285236) rfl kc_X12_224 ?_
  refine V_iastJ rfl (by repeat (first | exact hup_eq | assumption | refine Eq.trans (hup_ne (by first | assumption | exact Ne.symm (by assumption) | decide | omega)) ?_)) rfl (by first | omega | decide) (by first | omega | decide) ?_
  refine V_iconst (v := nI 0) rfl (by decide) ?_
  refine V_istore rfl (by decide) ?_
  simp only [hup_hup]
  refine V_loop 8 (fun i lc G' => lc 0 = some (.ref 140) ∧ lc 1 = some (.ref kc) ∧ lc 2 = some (.int (nI at9)) ∧ lc 3 = some (.long (lN n)) ∧ lc 4 = some kmk ∧ lc 5 = some (.int (nI c)) ∧ lc 6 = some (.int (nI i)) ∧ ∃ f, (∀ j, j < 4 + i → f j = fF (sft key at9) n c j) ∧ G' = hup G 150 (IA 16 f)) ?_ ?_ 0 _ _ (Nat.zero_le _) ⟨rfl, rfl, rfl, rfl, rfl, rfl, rfl, _, ?_, rfl⟩
  · rintro i lc G' hi ⟨l0, l1, l2, l3, l4, l5, l6, f, hf, rfl⟩ ih
    refine V_iload rfl (by first | rfl | assumption) ?_
    refine V_bipush (v := nI 8) rfl (by decide) ?_
    refine V_icmp_geN rfl (by omega) (by decide) (fun h => absurd h (by omega)) (fun _ => ?_)
    refine V_aload_n rfl (by first | rfl | assumption) ?_
    refine V_getf rfl rfl rfl (by repeat (first | exact hup_eq | assumption | refine Eq.trans (hup_ne (by first | assumption | exact Ne.symm (by assumption) | decide | omega)) ?_)) (by first | rfl | assumption) ?_
    refine V_iconst (v := nI 4) rfl (by decide) ?_
    refine V_iload rfl (by first | rfl | assumption) ?_
    refine V_iaddN rfl ?_
    refine V_aload_n rfl (by first | rfl | assumption) ?_
    refine V_iload_n rfl (by first | rfl | assumption) ?_
    refine V_iconst (v := nI 4) rfl (by decide) ?_
    refine V_iload rfl (by first | rfl | assumption) ?_
    refine V_imulN rfl ?_
    refine V_iaddN rfl ?_
    refine V_callS (M' := mX12_little) (mc := 0) (ms := 0) (bc' := 0) (bs' := 0) rfl cw_X12_225 is_X12_little rfl (Nat.le_of_ble_eq_true rfl) ⟨Nat.le_of_ble_eq_true rfl, Nat.le_of_ble_eq_true rfl⟩ ⟨Nat.le_of_ble_eq_true rfl, Nat.le_of_ble_eq_true rfl⟩ (As := [.ref kc, .int (nI (at9 + 4 * i))]) (c_mlittle (Q := fun o G9 => o = .inl (some (.int (nI (le4 key (at9 + 4 * i))))) ∧ G9 = hup G 150 (IA 16 f)) ((hup_ne t1).trans gk) hkb (by omega) hN.2 ⟨rfl, rfl⟩) (fun o G9 h => ?_) (fun E G' h => by cases h.1)
    obtain ⟨h, rfl⟩ := h
    cases h
    refine V_iastJ rfl (by repeat (first | exact hup_eq | assumption | refine Eq.trans (hup_ne (by first | assumption | exact Ne.symm (by assumption) | decide | omega)) ?_)) rfl (by omega) (by decide) ?_
    refine V_iincN (d := 1) rfl (by first | rfl | assumption) (by decide) (by decide) ?_
    refine V_goto rfl ?_
    rw [hup_hup]
    refine ih _ _ ⟨l0, l1, l2, l3, l4, l5, rfl, _, fun j hj => ?_, rfl⟩
    by_cases h : j = 4 + i
    · subst h
      rw [pk_us, fF_k hi]
      congr 1
    · rw [pk_un h]
      exact hf j (by omega)
  · rintro lc G' ⟨l0, l1, l2, l3, l4, l5, l6, f, hf, rfl⟩
    refine V_iload rfl (by first | rfl | assumption) ?_
    refine V_bipush (v := nI 8) rfl (by decide) ?_
    refine V_icmp_geN rfl (by decide) (by decide) (fun _ => ?_) (fun h => absurd (Nat.le_refl _) h)
    refine V_aload_n rfl (by first | rfl | assumption) ?_
    refine V_getf rfl rfl rfl (by repeat (first | exact hup_eq | assumption | refine Eq.trans (hup_ne (by first | assumption | exact Ne.symm (by assumption) | decide | omega)) ?_)) (by first | rfl | assumption) ?_
    refine V_bipush (v := nI 12) rfl (by decide) ?_
    refine V_iload rfl (by first | rfl | assumption) ?_
    refine V_iastJ rfl (by repeat (first | exact hup_eq | assumption | refine Eq.trans (hup_ne (by first | assumption | exact Ne.symm (by assumption) | decide | omega)) ?_)) rfl (by first | omega | decide) (by first | omega | decide) ?_
    refine V_aload_n rfl (by first | rfl | assumption) ?_
    refine V_getf rfl rfl rfl (by repeat (first | exact hup_eq | assumption | refine Eq.trans (hup_ne (by first | assumption | exact Ne.symm (by assumption) | decide | omega)) ?_)) (by first | rfl | assumption) ?_
    refine V_bipush (v := nI 13) rfl (by decide) ?_
    refine V_iconst (v := nI 0) rfl (by decide) ?_
    refine V_iastJ rfl (by repeat (first | exact hup_eq | assumption | refine Eq.trans (hup_ne (by first | assumption | exact Ne.symm (by assumption) | decide | omega)) ?_)) rfl (by first | omega | decide) (by first | omega | decide) ?_
    refine V_aload_n rfl (by first | rfl | assumption) ?_
    refine V_getf rfl rfl rfl (by repeat (first | exact hup_eq | assumption | refine Eq.trans (hup_ne (by first | assumption | exact Ne.symm (by assumption) | decide | omega)) ?_)) (by first | rfl | assumption) ?_
    refine V_bipush (v := nI 14) rfl (by decide) ?_
    refine V_lload_n rfl (by first | rfl | assumption) (by first | rfl | assumption) ?_
    refine V_bipush (v := nI 32) rfl (by decide) ?_
    refine V_lshr rfl ?_
    rw [lshr63 hn (by decide)]
    refine V_l2iN rfl ?_
    refine V_callS (M' := mX12_turned) (mc := 0) (ms := 0) (bc' := 0) (bs' := 0) rfl cw_X12_229 is_X12_turned rfl (Nat.le_of_ble_eq_true rfl) ⟨Nat.le_of_ble_eq_true rfl, Nat.le_of_ble_eq_true rfl⟩ ⟨Nat.le_of_ble_eq_true rfl, Nat.le_of_ble_eq_true rfl⟩ (As := [.int (nI (n / 2 ^ 32))]) (c_mturned (Q := fun o G9 => o = .inl (some (.int (nI (p14 n 4)))) ∧ G9 = hup (hup (hup G 150 (IA 16 f)) 150 (IA 16 (upd f 12 (nI c)))) 150 (IA 16 (upd (upd f 12 (nI c)) 13 (nI 0)))) (by omega) ⟨by rw [tnd14 hn], rfl⟩) (fun o G9 h => ?_) (fun E G' h => by cases h.1)
    obtain ⟨h, rfl⟩ := h
    cases h
    simp only [hup_hup]
    refine V_iastJ rfl (by repeat (first | exact hup_eq | assumption | refine Eq.trans (hup_ne (by first | assumption | exact Ne.symm (by assumption) | decide | omega)) ?_)) rfl (by omega) (by decide) ?_
    rw [hup_hup]
    refine V_aload_n rfl (by first | rfl | assumption) ?_
    refine V_getf rfl rfl rfl (by repeat (first | exact hup_eq | assumption | refine Eq.trans (hup_ne (by first | assumption | exact Ne.symm (by assumption) | decide | omega)) ?_)) (by first | rfl | assumption) ?_
    refine V_bipush (v := nI 15) rfl (by decide) ?_
    refine V_lload_n rfl (by first | rfl | assumption) (by first | rfl | assumption) ?_
    refine V_l2iN rfl ?_
    rw [nI_mod n]
    refine V_callS (M' := mX12_turned) (mc := 0) (ms := 0) (bc' := 0) (bs' := 0) rfl cw_X12_229 is_X12_turned rfl (Nat.le_of_ble_eq_true rfl) ⟨Nat.le_of_ble_eq_true rfl, Nat.le_of_ble_eq_true rfl⟩ ⟨Nat.le_of_ble_eq_true rfl, Nat.le_of_ble_eq_true rfl⟩ (As := [.int (nI (n % 2 ^ 32))]) (c_mturned (Q := fun o G9 => o = .inl (some (.int (nI (p15 n 4)))) ∧ G9 = hup G 150 (IA 16 (upd (upd (upd f 12 (nI c)) 13 (nI 0)) 14 (nI (p14 n 4))))) (Nat.mod_lt _ (by decide)) ⟨by rw [tnd15], rfl⟩) (fun o G9 h => ?_) (fun E G' h => by cases h.1)
    obtain ⟨h, rfl⟩ := h
    cases h
    refine V_iastJ rfl (by repeat (first | exact hup_eq | assumption | refine Eq.trans (hup_ne (by first | assumption | exact Ne.symm (by assumption) | decide | omega)) ?_)) rfl (by omega) (by decide) ?_
    rw [hup_hup]
    obtain ⟨f2, hf2⟩ : ∃ f2, f2 = upd (upd (upd (upd f 12 (nI c)) 13 (nI 0)) 14 (nI (p14 n 4))) 15 (nI (p15 n 4)) := ⟨_, rfl⟩
    have hf3 : ∀ j, j < 16 → f2 j = fF (sft key at9) n c j := fun j hj => by
      rw [hf2]
      by_cases h15 : j = 15
      · subst h15; rw [pk_us, fF_15]
      · rw [pk_un h15]
        by_cases h14 : j = 14
        · subst h14; rw [pk_us, fF_14]
        · rw [pk_un h14]
          by_cases h13 : j = 13
          · subst h13; rw [pk_us, fF_13]
          · rw [pk_un h13]
            by_cases h12 : j = 12
            · subst h12; rw [pk_us, fF_12]
            · rw [pk_un h12]; exact hf j (by omega)
    rw [← hf2]
    clear hf2 hf
    refine V_iconst (v := nI 0) rfl (by decide) ?_
    refine V_istore rfl (by decide) ?_
    refine V_loop 16 (fun i lc G' => lc 0 = some (.ref 140) ∧ lc 6 = some (.int (nI i)) ∧ ∃ w, (∀ j, j < i → w j = f2 j) ∧ G' = hup (hup G 150 (IA 16 f2)) 151 (IA 16 w)) ?_ ?_ 0 _ _ (Nat.zero_le _) ⟨l0, rfl, w0, fun j hj => absurd hj (Nat.not_lt_zero j), (hup_same ((hup_ne (by decide)).trans g151)).symm⟩
    · rintro i lc G' hi ⟨l0, l6, w, hw, rfl⟩ ih
      refine V_iload rfl (by first | rfl | assumption) ?_
      refine V_bipush (v := nI 16) rfl (by decide) ?_
      refine V_icmp_geN rfl (by omega) (by decide) (fun h => absurd h (by omega)) (fun _ => ?_)
      refine V_aload_n rfl (by first | rfl | assumption) ?_
      refine V_getf rfl rfl rfl (by repeat (first | exact hup_eq | assumption | refine Eq.trans (hup_ne (by first | assumption | exact Ne.symm (by assumption) | decide | omega)) ?_)) (by first | rfl | assumption) ?_
      refine V_iload rfl (by first | rfl | assumption) ?_
      refine V_aload_n rfl (by first | rfl | assumption) ?_
      refine V_getf rfl rfl rfl (by repeat (first | exact hup_eq | assumption | refine Eq.trans (hup_ne (by first | assumption | exact Ne.symm (by assumption) | decide | omega)) ?_)) (by first | rfl | assumption) ?_
      refine V_iload rfl (by first | rfl | assumption) ?_
      refine V_ialdJ rfl (by repeat (first | exact hup_eq | assumption | refine Eq.trans (hup_ne (by first | assumption | exact Ne.symm (by assumption) | decide | omega)) ?_)) rfl (by first | omega | decide) (by first | omega | decide) ?_
      refine V_iastJ rfl (by repeat (first | exact hup_eq | assumption | refine Eq.trans (hup_ne (by first | assumption | exact Ne.symm (by assumption) | decide | omega)) ?_)) rfl (by first | omega | decide) (by first | omega | decide) ?_
      refine V_iincN (d := 1) rfl (by first | rfl | assumption) (by decide) (by decide) ?_
      refine V_goto rfl ?_
      rw [hup_hup]
      refine ih _ _ ⟨l0, rfl, _, fun j hj => ?_, rfl⟩
      by_cases e : j = i
      · subst e; rw [pk_us]
      · rw [pk_un e]; exact hw j (by omega)
    rintro lc G' ⟨l0, l6, w, hw, rfl⟩
    refine V_iload rfl (by first | rfl | assumption) ?_
    refine V_bipush (v := nI 16) rfl (by decide) ?_
    refine V_icmp_geN rfl (by decide) (by decide) (fun _ => ?_) (fun h => absurd (Nat.le_refl _) h)
    refine V_iconst (v := nI 0) rfl (by decide) ?_
    refine V_istore rfl (by decide) ?_
    refine V_loop 10 (fun i lc G' => lc 0 = some (.ref 140) ∧ lc 6 = some (.int (nI i)) ∧ ∃ w, (∀ j, j < 16 → w j = dbl qt (fF (sft key at9) n c) i j) ∧ G' = hup (hup G 150 (IA 16 f2)) 151 (IA 16 w)) ?_ ?_ 0 _ _ (Nat.zero_le _) ⟨l0, rfl, w, fun j hj => by rw [hw j hj, hf3 j hj]; rfl, rfl⟩
    · rintro i lc G' hi ⟨l0, l6, w, hw, rfl⟩ ih
      refine V_iload rfl (by first | rfl | assumption) ?_
      refine V_bipush (v := nI 10) rfl (by decide) ?_
      refine V_icmp_geN rfl (by omega) (by decide) (fun h => absurd h (by omega)) (fun _ => ?_)
      refine V_iconst (v := nI 0) rfl (by decide) ?_
      refine V_istore rfl (by decide) ?_
      refine V_loop 4 (fun m lc G' => lc 0 = some (.ref 140) ∧ lc 6 = some (.int (nI i)) ∧ lc 7 = some (.int (nI m)) ∧ G' = hup (hup G 150 (IA 16 f2)) 151 (IA 16 (qrs qt w m))) ?_ ?_ 0 _ _ (Nat.zero_le _) ⟨l0, l6, rfl, rfl⟩
      · rintro m lc G' hm ⟨l0, l6, l7, rfl⟩ ih2
        have hm1 := (hqt m hm).1
        refine V_iload rfl (by first | rfl | assumption) ?_
        refine V_iconst (v := nI 4) rfl (by decide) ?_
        refine V_icmp_geN rfl (by omega) (by decide) (fun h => absurd h (by omega)) (fun _ => ?_)
        refine V_aload_n rfl (by first | rfl | assumption) ?_
        refine V_iload rfl (by first | rfl | assumption) ?_
        refine V_iconst (v := nI 4) rfl (by decide) ?_
        refine V_iload rfl (by first | rfl | assumption) ?_
        refine V_iaddN rfl ?_
        refine V_bipush (v := nI 8) rfl (by decide) ?_
        refine V_iload rfl (by first | rfl | assumption) ?_
        refine V_iaddN rfl ?_
        refine V_bipush (v := nI 12) rfl (by decide) ?_
        refine V_iload rfl (by first | rfl | assumption) ?_
        refine V_iaddN rfl ?_
        refine V_callV (M' := mX12_quarter) (mc := 0) (ms := 0) (bc' := 0) (bs' := 0) rfl cw_X12_233 iv_X12_quarter (by repeat (first | exact hup_eq | assumption | refine Eq.trans (hup_ne (by first | assumption | exact Ne.symm (by assumption) | decide | omega)) ?_)) rfl rfl (Nat.le_of_ble_eq_true rfl) ⟨Nat.le_of_ble_eq_true rfl, Nat.le_of_ble_eq_true rfl⟩ ⟨Nat.le_of_ble_eq_true rfl, Nat.le_of_ble_eq_true rfl⟩ (As := [.int (nI m), .int (nI (4 + m)), .int (nI (8 + m)), .int (nI (12 + m))]) (c_mquarter (w := qrs qt w m) (Q := fun o G' => o = .inl none ∧ G' = hup (hup G 150 (IA 16 f2)) 151 (IA 16 (qrs qt w (m + 1)))) (by repeat (first | exact hup_eq | assumption | refine Eq.trans (hup_ne (by first | assumption | exact Ne.symm (by assumption) | decide | omega)) ?_)) (by repeat (first | exact hup_eq | assumption | refine Eq.trans (hup_ne (by first | assumption | exact Ne.symm (by assumption) | decide | omega)) ?_)) (by omega) (by omega) (by omega) (by omega) (by omega) (by omega) (by omega) (by omega) (by omega) (by omega) ⟨rfl, by rw [hup_hup]; simp only [qrs]; rw [hm1.1, hm1.2.1, hm1.2.2.1, hm1.2.2.2]⟩) (fun o G' h => ?_) (fun E G' h => by cases h.1)
        obtain ⟨h, rfl⟩ := h
        cases h
        refine V_iincN (d := 1) rfl (by first | rfl | assumption) (by decide) (by decide) ?_
        refine V_goto rfl ?_
        exact ih2 _ _ ⟨l0, l6, rfl, rfl⟩
      rintro lc G' ⟨l0, l6, l7, rfl⟩
      refine V_iload rfl (by first | rfl | assumption) ?_
      refine V_iconst (v := nI 4) rfl (by decide) ?_
      refine V_icmp_geN rfl (by decide) (by decide) (fun _ => ?_) (fun h => absurd (Nat.le_refl _) h)
      refine V_iconst (v := nI 0) rfl (by decide) ?_
      refine V_istore rfl (by decide) ?_
      refine V_loop 4 (fun m lc G' => lc 0 = some (.ref 140) ∧ lc 6 = some (.int (nI i)) ∧ lc 7 = some (.int (nI m)) ∧ G' = hup (hup G 150 (IA 16 f2)) 151 (IA 16 (qrs qt w (4 + m)))) ?_ ?_ 0 _ _ (Nat.zero_le _) ⟨l0, l6, rfl, rfl⟩
      · rintro m lc G' hm ⟨l0, l6, l7, rfl⟩ ih2
        have hm1 := (hqt m hm).2
        refine V_iload rfl (by first | rfl | assumption) ?_
        refine V_iconst (v := nI 4) rfl (by decide) ?_
        refine V_icmp_geN rfl (by omega) (by decide) (fun h => absurd h (by omega)) (fun _ => ?_)
        refine V_aload_n rfl (by first | rfl | assumption) ?_
        refine V_iload rfl (by first | rfl | assumption) ?_
        refine V_iconst (v := nI 4) rfl (by decide) ?_
        refine V_iload rfl (by first | rfl | assumption) ?_
        refine V_iconst (v := nI 1) rfl (by decide) ?_
        refine V_iaddN rfl ?_
        refine V_iconst (v := nI 4) rfl (by decide) ?_
        refine V_iremN rfl (by first | omega | decide) (by first | omega | decide) (by first | omega | decide) ?_
        refine V_iaddN rfl ?_
        refine V_bipush (v := nI 8) rfl (by decide) ?_
        refine V_iload rfl (by first | rfl | assumption) ?_
        refine V_iconst (v := nI 2) rfl (by decide) ?_
        refine V_iaddN rfl ?_
        refine V_iconst (v := nI 4) rfl (by decide) ?_
        refine V_iremN rfl (by first | omega | decide) (by first | omega | decide) (by first | omega | decide) ?_
        refine V_iaddN rfl ?_
        refine V_bipush (v := nI 12) rfl (by decide) ?_
        refine V_iload rfl (by first | rfl | assumption) ?_
        refine V_iconst (v := nI 3) rfl (by decide) ?_
        refine V_iaddN rfl ?_
        refine V_iconst (v := nI 4) rfl (by decide) ?_
        refine V_iremN rfl (by first | omega | decide) (by first | omega | decide) (by first | omega | decide) ?_
        refine V_iaddN rfl ?_
        refine V_callV (M' := mX12_quarter) (mc := 0) (ms := 0) (bc' := 0) (bs' := 0) rfl cw_X12_233 iv_X12_quarter (by repeat (first | exact hup_eq | assumption | refine Eq.trans (hup_ne (by first | assumption | exact Ne.symm (by assumption) | decide | omega)) ?_)) rfl rfl (Nat.le_of_ble_eq_true rfl) ⟨Nat.le_of_ble_eq_true rfl, Nat.le_of_ble_eq_true rfl⟩ ⟨Nat.le_of_ble_eq_true rfl, Nat.le_of_ble_eq_true rfl⟩ (As := [.int (nI m), .int (nI (4 + (m + 1) % 4)), .int (nI (8 + (m + 2) % 4)), .int (nI (12 + (m + 3) % 4))]) (c_mquarter (w := qrs qt w (4 + m)) (Q := fun o G' => o = .inl none ∧ G' = hup (hup G 150 (IA 16 f2)) 151 (IA 16 (qrs qt w (4 + m + 1)))) (by repeat (first | exact hup_eq | assumption | refine Eq.trans (hup_ne (by first | assumption | exact Ne.symm (by assumption) | decide | omega)) ?_)) (by repeat (first | exact hup_eq | assumption | refine Eq.trans (hup_ne (by first | assumption | exact Ne.symm (by assumption) | decide | omega)) ?_)) (by omega) (by omega) (by omega) (by omega) (by omega) (by omega) (by omega) (by omega) (by omega) (by omega) ⟨rfl, by rw [hup_hup]; simp only [qrs]; rw [hm1.1, hm1.2.1, hm1.2.2.1, hm1.2.2.2]⟩) (fun o G' h => ?_) (fun E G' h => by cases h.1)
        obtain ⟨h, rfl⟩ := h
        cases h
        refine V_iincN (d := 1) rfl (by first | rfl | assumption) (by decide) (by decide) ?_
        refine V_goto rfl ?_
        exact ih2 _ _ ⟨l0, l6, rfl, rfl⟩
      · rintro lc G' ⟨l0, l6, l7, rfl⟩
        refine V_iload rfl (by first | rfl | assumption) ?_
        refine V_iconst (v := nI 4) rfl (by decide) ?_
        refine V_icmp_geN rfl (by decide) (by decide) (fun _ => ?_) (fun h => absurd (Nat.le_refl _) h)
        refine V_iincN (d := 1) rfl (by first | rfl | assumption) (by decide) (by decide) ?_
        refine V_goto rfl ?_
        refine ih _ _ ⟨l0, rfl, _, fun j hj => ?_, rfl⟩
        exact qrs_congr hqt hw 8 (by decide) j hj
    rintro lc G' ⟨l0, l6, w, hw, rfl⟩
    refine V_iload rfl (by first | rfl | assumption) ?_
    refine V_bipush (v := nI 10) rfl (by decide) ?_
    refine V_icmp_geN rfl (by decide) (by decide) (fun _ => ?_) (fun h => absurd (Nat.le_refl _) h)
    refine V_iconst (v := nI 0) rfl (by decide) ?_
    refine V_istore rfl (by decide) ?_
    refine V_loop 64 (fun i lc G' => lc 0 = some (.ref 140) ∧ lc 6 = some (.int (nI i)) ∧ G' = hup (hup (hup G 150 (IA 16 f2)) 151 (IA 16 w)) 152 (YA 64 (ovw b0 0 i (STRM qt (sft key at9) n c)))) ?_ ?_ 0 _ _ (Nat.zero_le _) ⟨l0, rfl, by rw [ovw_0, hup_same ((hup_ne (by decide)).trans ((hup_ne (by decide)).trans g152))]⟩
    · rintro i lc G' hi ⟨l0, l6, rfl⟩ ih
      refine V_iload rfl (by first | rfl | assumption) ?_
      refine V_bipush (v := nI 64) rfl (by decide) ?_
      refine V_icmp_geN rfl (by omega) (by decide) (fun h => absurd h (by omega)) (fun _ => ?_)
      refine V_aload_n rfl (by first | rfl | assumption) ?_
      refine V_getf rfl rfl rfl (by repeat (first | exact hup_eq | assumption | refine Eq.trans (hup_ne (by first | assumption | exact Ne.symm (by assumption) | decide | omega)) ?_)) (by first | rfl | assumption) ?_
      refine V_iload rfl (by first | rfl | assumption) ?_
      refine V_aload_n rfl (by first | rfl | assumption) ?_
      refine V_getf rfl rfl rfl (by repeat (first | exact hup_eq | assumption | refine Eq.trans (hup_ne (by first | assumption | exact Ne.symm (by assumption) | decide | omega)) ?_)) (by first | rfl | assumption) ?_
      refine V_iload rfl (by first | rfl | assumption) ?_
      refine V_iconst (v := nI 4) rfl (by decide) ?_
      refine V_idivN rfl (by first | omega | decide) (by first | omega | decide) (by first | omega | decide) ?_
      refine V_ialdJ rfl (by repeat (first | exact hup_eq | assumption | refine Eq.trans (hup_ne (by first | assumption | exact Ne.symm (by assumption) | decide | omega)) ?_)) rfl (by first | omega | decide) (by first | omega | decide) ?_
      refine V_aload_n rfl (by first | rfl | assumption) ?_
      refine V_getf rfl rfl rfl (by repeat (first | exact hup_eq | assumption | refine Eq.trans (hup_ne (by first | assumption | exact Ne.symm (by assumption) | decide | omega)) ?_)) (by first | rfl | assumption) ?_
      refine V_iload rfl (by first | rfl | assumption) ?_
      refine V_iconst (v := nI 4) rfl (by decide) ?_
      refine V_idivN rfl (by first | omega | decide) (by first | omega | decide) (by first | omega | decide) ?_
      refine V_ialdJ rfl (by repeat (first | exact hup_eq | assumption | refine Eq.trans (hup_ne (by first | assumption | exact Ne.symm (by assumption) | decide | omega)) ?_)) rfl (by first | omega | decide) (by first | omega | decide) ?_
      refine V_iadd rfl ?_
      refine V_bipush (v := nI 8) rfl (by decide) ?_
      refine V_iload rfl (by first | rfl | assumption) ?_
      refine V_iconst (v := nI 4) rfl (by decide) ?_
      refine V_iremN rfl (by first | omega | decide) (by first | omega | decide) (by first | omega | decide) ?_
      refine V_imulN rfl ?_
      refine V_ishr rfl ?_
      refine V_i2b rfl ?_
      refine V_bastM rfl (by repeat (first | exact hup_eq | assumption | refine Eq.trans (hup_ne (by first | assumption | exact Ne.symm (by assumption) | decide | omega)) ?_)) rfl (by omega) (by omega) ?_
      have e0 := ovw_s' (o := b0) (g := STRM qt (sft key at9) n c) (a := 0) (i := i) (x := lw ((w (i / 4) + f2 (i / 4)) >>> (nI (8 * (i % 4)) &&& 31)).toInt8.toInt32) (by rw [lw_8, lw_sar _ (by omega), hw _ (by omega), hf3 _ (by omega)]; rfl)
      rw [Nat.zero_add] at e0
      rw [hup_hup, e0]
      refine V_iincN (d := 1) rfl (by first | rfl | assumption) (by decide) (by decide) ?_
      refine V_goto rfl ?_
      exact ih _ _ ⟨l0, rfl, rfl⟩
    · rintro lc G' ⟨l0, l6, rfl⟩
      refine V_iload rfl (by first | rfl | assumption) ?_
      refine V_bipush (v := nI 64) rfl (by decide) ?_
      refine V_icmp_geN rfl (by decide) (by decide) (fun _ => ?_) (fun h => absurd (Nat.le_refl _) h)
      have hlt : ∀ j, ovw b0 0 64 (STRM qt (sft key at9) n c) j < 256 := ovw_lt hb0 (fun j _ => STRM_lt _ _ _ _ _)
      exact V_vret rfl rfl (hq _ _ (((FP.rf.hup (by decide)).hup (by decide)).hup (by decide)) ⟨⟨f2, by repeat (first | exact hup_eq | assumption | refine Eq.trans (hup_ne (by first | assumption | exact Ne.symm (by assumption) | decide | omega)) ?_)⟩, ⟨w, by repeat (first | exact hup_eq | assumption | refine Eq.trans (hup_ne (by first | assumption | exact Ne.symm (by assumption) | decide | omega)) ?_)⟩, _, hup_eq, hlt⟩ hup_eq hlt (fun j hj => by rw [ovw_at (Nat.zero_le _) (by omega)]; rfl))
  · intro j hj
    have : j = 0 ∨ j = 1 ∨ j = 2 ∨ j = 3 := by omega
    rcases this with rfl | rfl | rfl | rfl
    · rw [fF_lo (by decide), pk_un (by decide), pk_un (by decide), pk_un (by decide), pk_us]; simp only [cst4]
    · rw [fF_lo (by decide), pk_un (by decide), pk_un (by decide), pk_us]; simp only [cst4]
    · rw [fF_lo (by decide), pk_un (by decide), pk_us]; simp only [cst4]
    · rw [fF_lo (by decide), pk_us]; simp only [cst4]
end MStrm
