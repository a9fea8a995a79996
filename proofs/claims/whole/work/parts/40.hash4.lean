section CHash4
variable {K : kK} {G : kG} {Q : kO → kG → Prop}
abbrev ROB (b n : Nat) : kE := .inr (5, [.ref b, .int (nI n)])
theorem c_clearN {r b n : Nat} (hr : G.1 r = some (ROB b n)) (hq : Q (.inl none) (hup G r (ROB b 0))) : C K 0 0 mX6_clear [.ref r] G Q := c_Row_clear hr hq
theorem c_putN {r a N n x : Nat} {b : Nat → Nat} (hr : G.1 r = some (ROB a n)) (hb : G.1 a = some (BA N b)) (hn : n < N) (hN : N < 2 ^ 31) (hq : Q (.inl none) (hup (hup G a (BA N (updN b n x))) r (ROB a (n + 1)))) : C K 0 0 mX6_put [.ref r, .int (nI x)] G Q :=
  c_Row_put hr hb hn hN (by rw [updI_N]; exact hq)
theorem c_putAllN {r d N n a N0 s c : Nat} {b g : Nat → Nat} (hr : G.1 r = some (ROB d n)) (hb : G.1 d = some (BA N b)) (ha : G.1 a = some (BA N0 g)) (h1 : s + c ≤ N0) (h2 : n + c ≤ N) (hN : N < 2 ^ 30) (hN0 : N0 < 2 ^ 30)
    (hq : Q (.inl none) (hup (hup G d (BA N (va_cpy g b s n c))) r (ROB d (n + c)))) : C K 0 0 mX6_putAll [.ref r, .ref a, .int (nI s), .int (nI c)] G Q :=
  c_Row_putAll hr hb ha h1 h2 hN hN0 (by rw [cpyN]; exact hq)
def big4N (f : Nat → Nat) (n m : Nat) : Nat → Nat := updN (updN (updN (updN f n (m / 2 ^ 24 % 2 ^ 8)) (n + 1) (m / 2 ^ 16 % 2 ^ 8)) (n + 2) (m / 2 ^ 8 % 2 ^ 8)) (n + 3) (m % 2 ^ 8)
theorem c_putBigN {r a N n m : Nat} {b : Nat → Nat} (hm : m < 2 ^ 31) (hr : G.1 r = some (ROB a n)) (hb : G.1 a = some (BA N b)) (hn : n + 4 ≤ N) (hN : N < 2 ^ 30)
    (hq : Q (.inl none) (hup (hup G a (BA N (big4N b n m))) r (ROB a (n + 4)))) : C K 0 0 mX6_putBig [.ref r, .int (nI m)] G Q :=
  c_Row_putBig hm hr hb hn hN (by rw [big4, updI_N, updI_N, updI_N, updI_N]; exact hq)
theorem c_hstart {n : Nat} (g14 : G.1 14 = some (.inr (3, [.ref 15, .ref 16, .ref 17]))) (g17 : G.1 17 = some (ROB 18 n)) (hq : Q (.inl none) (hup G 17 (ROB 18 0))) : C K 0 0 mX3_start [.ref 14] G Q := by
  refine C_of okX3_start (Nat.le_of_ble_eq_true rfl) ?_
  refine V_aload_n rfl (by first | rfl | assumption) ?_
  refine V_getf rfl rfl rfl (by repeat (first | exact hup_eq | assumption | refine Eq.trans (hup_ne (by first | assumption | exact Ne.symm (by assumption) | decide)) ?_)) (by first | rfl | assumption) ?_
  refine V_callV (M' := mX6_clear) (mc := 0) (ms := 0) (bc' := 0) (bs' := 0) rfl cw_X3_25 iv_X6_clear (by repeat (first | exact hup_eq | assumption | refine Eq.trans (hup_ne (by first | assumption | exact Ne.symm (by assumption) | decide)) ?_)) rfl rfl (Nat.le_of_ble_eq_true rfl) ⟨Nat.le_of_ble_eq_true rfl, Nat.le_of_ble_eq_true rfl⟩ ⟨Nat.le_of_ble_eq_true rfl, Nat.le_of_ble_eq_true rfl⟩ (As := []) (c_clearN (Q := fun o G' => o = .inl none ∧ G' = hup G 17 (ROB 18 0)) g17 ⟨rfl, rfl⟩) (fun o G' h => ?_) (fun E G' h => by cases h.1)
  obtain ⟨h, rfl⟩ := h
  cases h
  exact V_vret rfl rfl hq
theorem c_haddRow {n a N0 s c : Nat} {b g : Nat → Nat} (g14 : G.1 14 = some (.inr (3, [.ref 15, .ref 16, .ref 17]))) (g17 : G.1 17 = some (ROB 18 n)) (g18 : G.1 18 = some (BA 640 b)) (ha : G.1 a = some (BA N0 g)) (h1 : s + c ≤ N0) (h2 : n + c ≤ 640) (hN0 : N0 < 2 ^ 30)
    (hq : Q (.inl none) (hup (hup G 18 (BA 640 (va_cpy g b s n c))) 17 (ROB 18 (n + c)))) : C K 0 0 mX3_addRow [.ref 14, .ref a, .int (nI s), .int (nI c)] G Q := by
  refine C_of okX3_addRow (Nat.le_of_ble_eq_true rfl) ?_
  refine V_aload_n rfl (by first | rfl | assumption) ?_
  refine V_getf rfl rfl rfl (by repeat (first | exact hup_eq | assumption | refine Eq.trans (hup_ne (by first | assumption | exact Ne.symm (by assumption) | decide)) ?_)) (by first | rfl | assumption) ?_
  refine V_aload_n rfl (by first | rfl | assumption) ?_
  refine V_iload_n rfl (by first | rfl | assumption) ?_
  refine V_iload_n rfl (by first | rfl | assumption) ?_
  refine V_callV (M' := mX6_putAll) (mc := 0) (ms := 0) (bc' := 0) (bs' := 0) rfl cw_X3_28 iv_X6_putAll (by repeat (first | exact hup_eq | assumption | refine Eq.trans (hup_ne (by first | assumption | exact Ne.symm (by assumption) | decide)) ?_)) rfl rfl (Nat.le_of_ble_eq_true rfl) ⟨Nat.le_of_ble_eq_true rfl, Nat.le_of_ble_eq_true rfl⟩ ⟨Nat.le_of_ble_eq_true rfl, Nat.le_of_ble_eq_true rfl⟩ (As := [.ref a, .int (nI s), .int (nI c)]) (c_putAllN (Q := fun o G' => o = .inl none ∧ G' = hup (hup G 18 (BA 640 (va_cpy g b s n c))) 17 (ROB 18 (n + c))) g17 g18 ha h1 h2 (by decide) hN0 ⟨rfl, rfl⟩) (fun o G' h => ?_) (fun E G' h => by cases h.1)
  obtain ⟨h, rfl⟩ := h
  cases h
  exact V_vret rfl rfl hq
theorem c_hadd {n x : Nat} {b : Nat → Nat} (g14 : G.1 14 = some (.inr (3, [.ref 15, .ref 16, .ref 17]))) (g17 : G.1 17 = some (ROB 18 n)) (g18 : G.1 18 = some (BA 640 b)) (h2 : n < 640)
    (hq : Q (.inl none) (hup (hup G 18 (BA 640 (updN b n x))) 17 (ROB 18 (n + 1)))) : C K 0 0 mX3_add [.ref 14, .int (nI x)] G Q := by
  refine C_of okX3_add (Nat.le_of_ble_eq_true rfl) ?_
  refine V_aload_n rfl (by first | rfl | assumption) ?_
  refine V_getf rfl rfl rfl (by repeat (first | exact hup_eq | assumption | refine Eq.trans (hup_ne (by first | assumption | exact Ne.symm (by assumption) | decide)) ?_)) (by first | rfl | assumption) ?_
  refine V_iload_n rfl (by first | rfl | assumption) ?_
  refine V_callV (M' := mX6_put) (mc := 0) (ms := 0) (bc' := 0) (bs' := 0) rfl cw_X3_32 iv_X6_put (by repeat (first | exact hup_eq | assumption | refine Eq.trans (hup_ne (by first | assumption | exact Ne.symm (by assumption) | decide)) ?_)) rfl rfl (Nat.le_of_ble_eq_true rfl) ⟨Nat.le_of_ble_eq_true rfl, Nat.le_of_ble_eq_true rfl⟩ ⟨Nat.le_of_ble_eq_true rfl, Nat.le_of_ble_eq_true rfl⟩ (As := [.int (nI x)]) (c_putN (Q := fun o G' => o = .inl none ∧ G' = hup (hup G 18 (BA 640 (updN b n x))) 17 (ROB 18 (n + 1))) g17 g18 h2 (by decide) ⟨rfl, rfl⟩) (fun o G' h => ?_) (fun E G' h => by cases h.1)
  obtain ⟨h, rfl⟩ := h
  cases h
  exact V_vret rfl rfl hq
def hsr (G : kG) : Prop := G.1 14 = some (.inr (3, [.ref 15, .ref 16, .ref 17])) ∧ (∃ h, G.1 15 = some (IA 8 h)) ∧ (∃ w, G.1 16 = some (IA 64 w)) ∧ ∃ n b, G.1 17 = some (ROB 18 n) ∧ G.1 18 = some (BA 640 b)
theorem pad_ok {b b1 : Nat → Nat} {n z T : Nat} (hn : n ≤ 631) (hT : T = (n + 72) / 64 * 64) (hz : n + 1 + z + 4 + 4 = T) (hb1 : b1 = big4N (fun j => if n + 1 ≤ j ∧ j < n + 1 + (z + 4) then 0 else updN b n 128 j) (n + 1 + (z + 4)) (8 * n)) : ∀ j, j < T → b1 j = pad b n j := by
  intro j hj
  subst hb1
  have hp : ∀ e, j = e → 8 * n / 256 ^ (T - 1 - j) % 256 = 8 * n / 256 ^ (T - 1 - e) % 256 := fun e h => by rw [h]
  by_cases h0 : j < n
  · have R : pad b n j = b j := by unfold pad; rw [if_pos h0]
    rw [R]
    simp only [big4N, updN]
    rw [if_neg (by omega), if_neg (by omega), if_neg (by omega), if_neg (by omega), if_neg (by omega), if_neg (by omega)]
  · by_cases h1 : j = n
    · have R : pad b n j = 128 := by unfold pad; rw [if_neg h0, if_pos h1]
      rw [R]
      simp only [big4N, updN]
      rw [if_neg (by omega), if_neg (by omega), if_neg (by omega), if_neg (by omega), if_neg (by omega), if_pos h1]
    · by_cases h2 : j < n + 1 + (z + 4)
      · have R : pad b n j = 0 := by
          unfold pad
          rw [← hT, if_neg h0, if_neg h1]
          by_cases h3 : j < T - 8
          · rw [if_pos h3]
          · rw [if_neg h3]
            have : 256 ^ 4 ≤ 256 ^ (T - 1 - j) := Nat.pow_le_pow_right (by decide) (by omega)
            rw [Nat.div_eq_of_lt (by omega)]
        rw [R]
        simp only [big4N, updN]
        rw [if_neg (by omega), if_neg (by omega), if_neg (by omega), if_neg (by omega), if_pos ⟨by omega, h2⟩]
      · have R : pad b n j = 8 * n / 256 ^ (T - 1 - j) % 256 := by
          unfold pad
          rw [← hT, if_neg h0, if_neg h1, if_neg (by omega)]
        rw [R]
        have : j = n + 1 + (z + 4) ∨ j = n + 1 + (z + 4) + 1 ∨ j = n + 1 + (z + 4) + 2 ∨ j = n + 1 + (z + 4) + 3 := by omega
        simp only [big4N, updN]
        rcases this with e | e | e | e
        · rw [if_neg (by omega), if_neg (by omega), if_neg (by omega), if_pos e, show T - 1 - j = 3 by omega]
        · rw [if_neg (by omega), if_neg (by omega), if_pos e, show T - 1 - j = 2 by omega]
        · rw [if_neg (by omega), if_pos e, show T - 1 - j = 1 by omega]
        · rw [if_pos e, show T - 1 - j = 0 by omega, Nat.pow_zero, Nat.div_one]
theorem pad_lt {b : Nat → Nat} {n : Nat} (hb : ∀ j, j < n → b j < 256) (j : Nat) : pad b n j < 256 := by
  unfold pad
  split
  · exact hb j (by assumption)
  · split
    · decide
    · split
      · decide
      · exact Nat.mod_lt _ (by decide)
theorem ushr8 (x : Int32) {k : Nat} (hk : k < 32) : (x.toUInt32 >>> ((nI k).toUInt32 &&& Int32.toUInt32 31)).toInt32 &&& nI 255 = nI (x.toBitVec.toNat / 2 ^ k % 2 ^ 8) := by
  rw [nI_self (x.toUInt32 >>> ((nI k).toUInt32 &&& Int32.toUInt32 31)).toInt32, pk_ushr x (nI k) k (amt32u k hk), show (255 : Nat) = 2 ^ 8 - 1 by decide, nI_mask _ 8 (by decide)]
set_option maxHeartbeats 8000000 in
theorem c_hfinish {n res Nr : Nat} {b o : Nat → Nat} {f0 r w0 h0 : Nat → Int32} (hF : kSX K 1 = some (8, f0)) (hR : kSX K 2 = some (64, r)) (g14 : G.1 14 = some (.inr (3, [.ref 15, .ref 16, .ref 17]))) (g15 : G.1 15 = some (IA 8 h0)) (g16 : G.1 16 = some (IA 64 w0)) (g17 : G.1 17 = some (ROB 18 n)) (g18 : G.1 18 = some (BA 640 b)) (hn : n ≤ 631) (hb : ∀ j, j < n → b j < 256) (hr : G.1 res = some (BA Nr o)) (hres : res < 14 ∨ 18 < res) (hNr : 32 ≤ Nr ∧ Nr < 2 ^ 20)
    (hq : ∀ G', FR [15, 16, 17, 18, res] G G' → hsr G' → G'.1 res = some (BA Nr (fun j => if j < 32 then HSH f0 r (lst b n) j else o j)) → Q (.inl none) G') : C K 0 0 mX3_finish [.ref 14, .ref res] G Q := by
  have hr5 : res ≠ 15 := by omega
  have hr6 : res ≠ 16 := by omega
  have hr7 : res ≠ 17 := by omega
  have hr8 : res ≠ 18 := by omega
  have hr4 : res ≠ 14 := by omega
  have hr5' : 15 ≠ res := by omega
  have hr6' : 16 ≠ res := by omega
  have hr7' : 17 ≠ res := by omega
  have hr8' : 18 ≠ res := by omega
  have hr4' : 14 ≠ res := by omega
  refine C_of okX3_finish (Nat.le_of_ble_eq_true rfl) ?_
  refine V_bipush (v := nI 8) rfl (by decide) ?_
  refine V_aload_n rfl (by first | rfl | assumption) ?_
  refine V_getf rfl rfl rfl (by repeat (first | exact hup_eq | assumption | refine Eq.trans (hup_ne (by first | assumption | exact Ne.symm (by assumption) | decide)) ?_)) (by first | rfl | assumption) ?_
  refine V_getf rfl rfl rfl (by repeat (first | exact hup_eq | assumption | refine Eq.trans (hup_ne (by first | assumption | exact Ne.symm (by assumption) | decide)) ?_)) (by first | rfl | assumption) ?_
  refine V_imulN rfl ?_
  refine V_istore_n rfl (by decide) ?_
  refine V_bipush (v := nI 119) rfl (by decide) ?_
  refine V_aload_n rfl (by first | rfl | assumption) ?_
  refine V_getf rfl rfl rfl (by repeat (first | exact hup_eq | assumption | refine Eq.trans (hup_ne (by first | assumption | exact Ne.symm (by assumption) | decide)) ?_)) (by first | rfl | assumption) ?_
  refine V_getf rfl rfl rfl (by repeat (first | exact hup_eq | assumption | refine Eq.trans (hup_ne (by first | assumption | exact Ne.symm (by assumption) | decide)) ?_)) (by first | rfl | assumption) ?_
  refine V_bipush (v := nI 64) rfl (by decide) ?_
  refine V_iremN rfl (by first | omega | decide) (by first | omega | decide) (by first | omega | decide) ?_
  refine V_isubN rfl (by first | omega | decide) ?_
  refine V_bipush (v := nI 64) rfl (by decide) ?_
  refine V_iremN rfl (by first | omega | decide) (by first | omega | decide) (by first | omega | decide) ?_
  refine V_istore_n rfl (by decide) ?_
  refine V_aload_n rfl (by first | rfl | assumption) ?_
  refine V_getf rfl rfl rfl (by repeat (first | exact hup_eq | assumption | refine Eq.trans (hup_ne (by first | assumption | exact Ne.symm (by assumption) | decide)) ?_)) (by first | rfl | assumption) ?_
  refine V_sipush (v := nI 128) rfl (by decide) ?_
  obtain ⟨z, hz⟩ : ∃ z, z = (119 - n % 64) % 64 := ⟨_, rfl⟩
  rw [← hz]
  refine V_callV (M' := mX6_put) (mc := 0) (ms := 0) (bc' := 0) (bs' := 0) rfl cw_X3_32 iv_X6_put (by repeat (first | exact hup_eq | assumption | refine Eq.trans (hup_ne (by first | assumption | exact Ne.symm (by assumption) | decide)) ?_)) rfl rfl (Nat.le_of_ble_eq_true rfl) ⟨Nat.le_of_ble_eq_true rfl, Nat.le_of_ble_eq_true rfl⟩ ⟨Nat.le_of_ble_eq_true rfl, Nat.le_of_ble_eq_true rfl⟩ (As := [.int (nI 128)]) (c_putN (Q := fun o G' => o = .inl none ∧ G' = hup (hup G 18 (BA 640 (updN b n 128))) 17 (ROB 18 (n + 1))) g17 g18 (by omega) (by decide) ⟨rfl, rfl⟩) (fun o G' h => ?_) (fun E G' h => by cases h.1)
  obtain ⟨h, rfl⟩ := h
  cases h
  refine V_iconst (v := nI 0) rfl (by decide) ?_
  refine V_istore rfl (by decide) ?_
  refine V_loop (z + 4) (fun i lc G' => lc 0 = some (.ref 14) ∧ lc 1 = some (.ref res) ∧ lc 2 = some (.int (nI (8 * n))) ∧ lc 3 = some (.int (nI z)) ∧ lc 4 = some (.int (nI i)) ∧ G' = hup (hup G 18 (BA 640 (fun j => if n + 1 ≤ j ∧ j < n + 1 + i then 0 else updN b n 128 j))) 17 (ROB 18 (n + 1 + i))) ?_ ?_ 0 _ _ (Nat.zero_le _) ⟨rfl, rfl, rfl, rfl, rfl, ?_⟩
  · rintro i lc G' hi ⟨l0, l1, l2, l3, l4, rfl⟩ ih
    refine V_iload rfl (by first | rfl | assumption) ?_
    refine V_iload_n rfl (by first | rfl | assumption) ?_
    refine V_iconst (v := nI 4) rfl (by decide) ?_
    refine V_iaddN rfl ?_
    refine V_icmp_geN rfl (by omega) (by omega) (fun h => absurd h (by omega)) (fun _ => ?_)
    refine V_aload_n rfl (by first | rfl | assumption) ?_
    refine V_getf rfl rfl rfl (by repeat (first | exact hup_eq | assumption | refine Eq.trans (hup_ne (by first | assumption | exact Ne.symm (by assumption) | decide)) ?_)) (by first | rfl | assumption) ?_
    refine V_iconst (v := nI 0) rfl (by decide) ?_
    refine V_callV (M' := mX6_put) (mc := 0) (ms := 0) (bc' := 0) (bs' := 0) rfl cw_X3_32 iv_X6_put (by repeat (first | exact hup_eq | assumption | refine Eq.trans (hup_ne (by first | assumption | exact Ne.symm (by assumption) | decide)) ?_)) rfl rfl (Nat.le_of_ble_eq_true rfl) ⟨Nat.le_of_ble_eq_true rfl, Nat.le_of_ble_eq_true rfl⟩ ⟨Nat.le_of_ble_eq_true rfl, Nat.le_of_ble_eq_true rfl⟩ (As := [.int (nI 0)]) (c_putN (Q := fun o G' => o = .inl none ∧ G' = hup (hup G 18 (BA 640 (updN (fun j => if n + 1 ≤ j ∧ j < n + 1 + i then 0 else updN b n 128 j) (n + 1 + i) 0))) 17 (ROB 18 (n + 1 + i + 1))) (by repeat (first | exact hup_eq | assumption | refine Eq.trans (hup_ne (by first | assumption | exact Ne.symm (by assumption) | decide)) ?_)) (by repeat (first | exact hup_eq | assumption | refine Eq.trans (hup_ne (by first | assumption | exact Ne.symm (by assumption) | decide)) ?_)) (by omega) (by decide) ⟨rfl, by rw [hup4 (by decide)]⟩) (fun o G' h => ?_) (fun E G' h => by cases h.1)
    obtain ⟨h, rfl⟩ := h
    cases h
    refine V_iincN (d := 1) rfl (by first | rfl | assumption) (by decide) (by decide) ?_
    refine V_goto rfl ?_
    refine ih _ _ ⟨l0, l1, l2, l3, rfl, ?_⟩
    refine congrArg (fun e => hup (hup G 18 (BA 640 e)) 17 (ROB 18 (n + 1 + i + 1))) ?_
    funext j
    by_cases h1 : j = n + 1 + i
    · rw [h1, updN_eq, if_pos ⟨by omega, by omega⟩]
    · rw [updN_ne h1]
      by_cases h2 : n + 1 ≤ j ∧ j < n + 1 + i
      · rw [if_pos h2, if_pos ⟨by omega, by omega⟩]
      · rw [if_neg h2, if_neg (by omega)]
  · rintro lc G' ⟨l0, l1, l2, l3, l4, rfl⟩
    refine V_iload rfl (by first | rfl | assumption) ?_
    refine V_iload_n rfl (by first | rfl | assumption) ?_
    refine V_iconst (v := nI 4) rfl (by decide) ?_
    refine V_iaddN rfl ?_
    refine V_icmp_geN rfl (by omega) (by omega) (fun _ => ?_) (fun h => absurd (Nat.le_refl _) h)
    refine V_aload_n rfl (by first | rfl | assumption) ?_
    refine V_getf rfl rfl rfl (by repeat (first | exact hup_eq | assumption | refine Eq.trans (hup_ne (by first | assumption | exact Ne.symm (by assumption) | decide)) ?_)) (by first | rfl | assumption) ?_
    refine V_iload_n rfl (by first | rfl | assumption) ?_
    obtain ⟨b1, hb1⟩ : ∃ b1, b1 = big4N (fun j => if n + 1 ≤ j ∧ j < n + 1 + (z + 4) then 0 else updN b n 128 j) (n + 1 + (z + 4)) (8 * n) := ⟨_, rfl⟩
    obtain ⟨T, hT⟩ : ∃ T, T = (n + 72) / 64 * 64 := ⟨_, rfl⟩
    have hzT : n + 1 + z + 4 + 4 = T := by omega
    have hpd := pad_ok hn hT hzT hb1
    refine V_callV (M' := mX6_putBig) (mc := 0) (ms := 0) (bc' := 0) (bs' := 0) rfl cw_X3_39 iv_X6_putBig (by repeat (first | exact hup_eq | assumption | refine Eq.trans (hup_ne (by first | assumption | exact Ne.symm (by assumption) | decide)) ?_)) rfl rfl (Nat.le_of_ble_eq_true rfl) ⟨Nat.le_of_ble_eq_true rfl, Nat.le_of_ble_eq_true rfl⟩ ⟨Nat.le_of_ble_eq_true rfl, Nat.le_of_ble_eq_true rfl⟩ (As := [.int (nI (8 * n))]) (c_putBigN (Q := fun o G' => o = .inl none ∧ G' = hup (hup G 18 (BA 640 b1)) 17 (ROB 18 T)) (by omega) (by repeat (first | exact hup_eq | assumption | refine Eq.trans (hup_ne (by first | assumption | exact Ne.symm (by assumption) | decide)) ?_)) (by repeat (first | exact hup_eq | assumption | refine Eq.trans (hup_ne (by first | assumption | exact Ne.symm (by assumption) | decide)) ?_)) (by omega) (by decide) ⟨rfl, by rw [hup4 (by decide), ← hb1, show n + 1 + (z + 4) + 4 = T by omega]⟩) (fun o G' h => ?_) (fun E G' h => by cases h.1)
    obtain ⟨h, rfl⟩ := h
    cases h
    clear hb1
    refine V_gets (j := 1) rfl rfl ks_X3_42 ?_
    refine V_iconst (v := nI 0) rfl (by decide) ?_
    refine V_aload_n rfl (by first | rfl | assumption) ?_
    refine V_getf rfl rfl rfl (by repeat (first | exact hup_eq | assumption | refine Eq.trans (hup_ne (by first | assumption | exact Ne.symm (by assumption) | decide)) ?_)) (by first | rfl | assumption) ?_
    refine V_iconst (v := nI 0) rfl (by decide) ?_
    refine V_gets (j := 1) rfl rfl ks_X3_42 ?_
    refine V_slen rfl (by assumption) ?_
    refine V_copys (st := []) rfl ⟨kk_X3_45, k_ac⟩ hF (by repeat (first | exact hup_eq | assumption | refine Eq.trans (hup_ne (by first | assumption | exact Ne.symm (by assumption) | decide)) ?_)) (by decide) (by decide) (by decide) (by decide) (by decide) (by decide) (by decide) ?_
    rw [show (nI 0).toNatClampNeg = 0 by decide, show (nI 8).toNatClampNeg = 8 by decide]
    obtain ⟨h1, hh1⟩ : ∃ h1, h1 = va_cpy f0 h0 0 0 8 := ⟨_, rfl⟩
    rw [← hh1]
    have hh : ∀ k, k < 8 → h1 k = hbl f0 r b1 0 k := fun k hk => by
      rw [hh1, pk_cpy_in (by omega) (by omega)]
      simp [hbl]
    clear hh1
    obtain ⟨nb, hnb⟩ : ∃ nb, nb = (n + 72) / 64 := ⟨_, rfl⟩
    have hT2 : T = 64 * nb := by omega
    have hbl1 : ∀ j, j < T → b1 j < 256 := fun j hj => by rw [hpd j hj]; exact pad_lt hb j
    refine V_iconst (v := nI 0) rfl (by decide) ?_
    refine V_istore rfl (by decide) ?_
    refine V_loop nb (fun i lc G' => lc 0 = some (.ref 14) ∧ lc 1 = some (.ref res) ∧ lc 4 = some (.int (nI (64 * i))) ∧ ∃ w h, (∀ k, k < 8 → h k = hbl f0 r b1 i k) ∧ G' = hup (hup (hup (hup G 18 (BA 640 b1)) 17 (ROB 18 T)) 16 (IA 64 w)) 15 (IA 8 h)) ?_ ?_ 0 _ _ (Nat.zero_le _) ⟨l0, l1, rfl, w0, h1, hh, ?_⟩
    · rintro i lc G' hi ⟨l0, l1, l4, w, h, hh, rfl⟩ ih
      refine V_iload rfl (by first | rfl | assumption) ?_
      refine V_bipush (v := nI 64) rfl (by decide) ?_
      refine V_iaddN rfl ?_
      refine V_aload_n rfl (by first | rfl | assumption) ?_
      refine V_getf rfl rfl rfl (by repeat (first | exact hup_eq | assumption | refine Eq.trans (hup_ne (by first | assumption | exact Ne.symm (by assumption) | decide)) ?_)) (by first | rfl | assumption) ?_
      refine V_getf rfl rfl rfl (by repeat (first | exact hup_eq | assumption | refine Eq.trans (hup_ne (by first | assumption | exact Ne.symm (by assumption) | decide)) ?_)) (by first | rfl | assumption) ?_
      refine V_icmp_gtN rfl (by omega) (by omega) (fun h => absurd h (by omega)) (fun _ => ?_)
      refine V_aload_n rfl (by first | rfl | assumption) ?_
      refine V_iload rfl (by first | rfl | assumption) ?_
      refine V_callV (M' := mX3_mix) (mc := 0) (ms := 0) (bc' := 0) (bs' := 0) rfl cw_X3_51 iv_X3_mix (by repeat (first | exact hup_eq | assumption | refine Eq.trans (hup_ne (by first | assumption | exact Ne.symm (by assumption) | decide)) ?_)) rfl rfl (Nat.le_of_ble_eq_true rfl) ⟨Nat.le_of_ble_eq_true rfl, Nat.le_of_ble_eq_true rfl⟩ ⟨Nat.le_of_ble_eq_true rfl, Nat.le_of_ble_eq_true rfl⟩ (As := [.int (nI (64 * i))]) (c_mix (b := b1) (Q := fun o G' => o = .inl none ∧ ∃ w2 h2, (∀ k, k < 8 → h2 k = mixF r (exw (bW b1 (64 * i)) 48) h k) ∧ G' = hup (hup (hup (hup G 18 (BA 640 b1)) 17 (ROB 18 T)) 16 (IA 64 w2)) 15 (IA 8 h2)) hR (by repeat (first | exact hup_eq | assumption | refine Eq.trans (hup_ne (by first | assumption | exact Ne.symm (by assumption) | decide)) ?_)) (by repeat (first | exact hup_eq | assumption | refine Eq.trans (hup_ne (by first | assumption | exact Ne.symm (by assumption) | decide)) ?_)) (by repeat (first | exact hup_eq | assumption | refine Eq.trans (hup_ne (by first | assumption | exact Ne.symm (by assumption) | decide)) ?_)) (by repeat (first | exact hup_eq | assumption | refine Eq.trans (hup_ne (by first | assumption | exact Ne.symm (by assumption) | decide)) ?_)) (by repeat (first | exact hup_eq | assumption | refine Eq.trans (hup_ne (by first | assumption | exact Ne.symm (by assumption) | decide)) ?_)) (by omega) (fun j hj => hbl1 _ (by omega)) (fun w2 h2 q => ⟨rfl, w2, h2, q, by rw [hup4 (by decide)]⟩)) (fun o G' h => ?_) (fun E G' h => by cases h.1)
      obtain ⟨h, w2, h2, q, rfl⟩ := h
      cases h
      refine V_iincN (d := 64) rfl (by first | rfl | assumption) (by decide) (by decide) ?_
      refine V_goto rfl ?_
      refine ih _ _ ⟨l0, l1, rfl, w2, h2, fun k hk => ?_, rfl⟩
      rw [q k hk]
      exact mixF_congr (fun _ _ => rfl) (fun _ _ => rfl) hh k hk
    · rintro lc G' ⟨l0, l1, l4, w, h, hh, rfl⟩
      refine V_iload rfl (by first | rfl | assumption) ?_
      refine V_bipush (v := nI 64) rfl (by decide) ?_
      refine V_iaddN rfl ?_
      refine V_aload_n rfl (by first | rfl | assumption) ?_
      refine V_getf rfl rfl rfl (by repeat (first | exact hup_eq | assumption | refine Eq.trans (hup_ne (by first | assumption | exact Ne.symm (by assumption) | decide)) ?_)) (by first | rfl | assumption) ?_
      refine V_getf rfl rfl rfl (by repeat (first | exact hup_eq | assumption | refine Eq.trans (hup_ne (by first | assumption | exact Ne.symm (by assumption) | decide)) ?_)) (by first | rfl | assumption) ?_
      refine V_icmp_gtN rfl (by omega) (by omega) (fun _ => ?_) (fun h => absurd h (by omega))
      have hh2 : ∀ k, k < 8 → h k = hbl f0 r (pad b n) nb k := fun k hk => by
        rw [hh k hk]
        exact hbl_congr (fun _ _ => rfl) (fun _ _ => rfl) nb (fun j hj => hpd j (by omega)) k hk
      obtain ⟨G2, hG2⟩ : ∃ G2, G2 = hup (hup (hup (hup G 18 (BA 640 b1)) 17 (ROB 18 T)) 16 (IA 64 w)) 15 (IA 8 h) := ⟨_, rfl⟩
      rw [← hG2]
      have e14 : G2.1 14 = some (.inr (3, [.ref 15, .ref 16, .ref 17])) := by rw [hG2]; exact g14
      have e15 : G2.1 15 = some (IA 8 h) := by rw [hG2]; rfl
      have e16 : G2.1 16 = some (IA 64 w) := by rw [hG2]; rfl
      have e17 : G2.1 17 = some (ROB 18 T) := by rw [hG2]; rfl
      have e18 : G2.1 18 = some (BA 640 b1) := by rw [hG2]; rfl
      have er : G2.1 res = some (BA Nr o) := by rw [hG2, hup_ne hr5, hup_ne hr6, hup_ne hr7, hup_ne hr8]; exact hr
      have hFR : FR [15, 16, 17, 18, res] G G2 := by
        rw [hG2]
        refine ⟨rfl, fun j hj => ?_⟩
        simp only [List.mem_cons, List.not_mem_nil, or_false, not_or] at hj
        rw [hup_ne hj.1, hup_ne hj.2.1, hup_ne hj.2.2.1, hup_ne hj.2.2.2.1]
      clear hG2
      refine V_iconst (v := nI 0) rfl (by decide) ?_
      refine V_istore rfl (by decide) ?_
      refine V_loop 32 (fun i lc G' => lc 0 = some (.ref 14) ∧ lc 1 = some (.ref res) ∧ lc 4 = some (.int (nI i)) ∧ G' = hup G2 res (BA Nr (fun j => if j < i then wbyte h j else o j))) ?_ ?_ 0 _ _ (Nat.zero_le _) ⟨l0, l1, rfl, (hup_same (by simpa using er)).symm⟩
      · rintro i lc G' hi ⟨l0, l1, l4, rfl⟩ ih
        refine V_iload rfl (by first | rfl | assumption) ?_
        refine V_bipush (v := nI 32) rfl (by decide) ?_
        refine V_icmp_geN rfl (by omega) (by decide) (fun h => absurd h (by omega)) (fun _ => ?_)
        refine V_aload_n rfl (by first | rfl | assumption) ?_
        refine V_iload rfl (by first | rfl | assumption) ?_
        refine V_aload_n rfl (by first | rfl | assumption) ?_
        refine V_getf rfl rfl rfl (by repeat (first | exact hup_eq | assumption | refine Eq.trans (hup_ne (by first | assumption | exact Ne.symm (by assumption) | decide)) ?_)) (by first | rfl | assumption) ?_
        refine V_iload rfl (by first | rfl | assumption) ?_
        refine V_iconst (v := nI 2) rfl (by decide) ?_
        refine V_ishrN rfl (by first | omega | decide) (by first | omega | decide) ?_
        refine V_ialdJ rfl (by repeat (first | exact hup_eq | assumption | refine Eq.trans (hup_ne (by first | assumption | exact Ne.symm (by assumption) | decide)) ?_)) rfl (by first | omega | decide) (by first | omega | decide) ?_
        refine V_bipush (v := nI 24) rfl (by decide) ?_
        refine V_bipush (v := nI 8) rfl (by decide) ?_
        refine V_iload rfl (by first | rfl | assumption) ?_
        refine V_iconst (v := nI 3) rfl (by decide) ?_
        refine V_iandN 2 rfl (by decide) (by decide) ?_
        refine V_imulN rfl ?_
        refine V_isubN rfl (by first | omega | decide) ?_
        refine V_iushr rfl ?_
        refine V_sipush (v := nI 255) rfl (by decide) ?_
        refine V_iand rfl ?_
        rw [ushr8 _ (by omega)]
        refine V_iastN rfl hup_eq rfl (by omega) (by omega) ?_
        rw [hup_hup]
        refine V_iincN (d := 1) rfl (by first | rfl | assumption) (by decide) (by decide) ?_
        refine V_goto rfl ?_
        refine ih _ _ ⟨l0, l1, rfl, ?_⟩
        refine congrArg (fun e => hup G2 res (BA Nr e)) ?_
        funext j
        simp only [updN]
        by_cases h1 : j = i
        · rw [if_pos h1, if_pos (by omega), h1]; rfl
        · rw [if_neg h1]
          by_cases h2 : j < i
          · rw [if_pos h2, if_pos (by omega)]
          · rw [if_neg h2, if_neg (by omega)]
      · rintro lc G' ⟨l0, l1, l4, rfl⟩
        refine V_iload rfl (by first | rfl | assumption) ?_
        refine V_bipush (v := nI 32) rfl (by decide) ?_
        refine V_icmp_geN rfl (by decide) (by decide) (fun _ => ?_) (fun h => absurd (Nat.le_refl _) h)
        refine V_vret rfl rfl (hq _ ⟨hFR.1, fun j hj => ?_⟩ ⟨?_, ⟨h, ?_⟩, ⟨w, ?_⟩, T, b1, ?_, ?_⟩ ?_)
        · rw [← hFR.2 j hj]
          refine hup_ne ?_
          simp only [List.mem_cons, List.not_mem_nil, or_false, not_or] at hj
          exact hj.2.2.2.2
        · rw [hup_ne hr4']; exact e14
        · rw [hup_ne hr5']; exact e15
        · rw [hup_ne hr6']; exact e16
        · rw [hup_ne hr7']; exact e17
        · rw [hup_ne hr8']; exact e18
        · rw [hup_eq]
          refine congrArg (fun e => some (BA Nr e)) ?_
          funext j
          by_cases hj : j < 32
          · rw [if_pos hj, if_pos hj, ← HSH_lst hj]
            unfold hshF
            rw [← hnb]
            exact wbyte_congr hh2 hj
          · rw [if_neg hj, if_neg hj]
    · refine congrArg (fun e => hup e 15 (IA 8 h1)) ?_
      exact (hup_same (by exact g16)).symm
  · refine congrArg (fun e => hup (hup G 18 (BA 640 e)) 17 (ROB 18 (n + 1))) ?_
    funext j
    rw [if_neg (by omega)]
end CHash4
