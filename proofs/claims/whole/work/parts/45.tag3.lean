section CTag
variable {K : kK} {bc bs : Nat} {M : kM} {pc n t : Nat} {lc : kLo} {st : List Value} {G : kG} {Q : kO → kG → Prop}
set_option maxRecDepth 100000 in
theorem kmm : Cond.methodLink RX9 36 Lib.Math.min.name ∈ kU ∧ Cond.static Lib.Math.min.name ∈ kU ∧ Cond.initialized "java/lang/Math" ∈ kU ∧ Cond.code Lib.Math.min.name Lib.Math.min.code 2 (some .int) ∈ kU := ⟨kU_of (i := 731) (by decide +kernel) rfl, kU_of (i := 732) (by decide +kernel) rfl, kU_of (i := 103) (by decide +kernel) rfl, kU_of (i := 733) (by decide +kernel) rfl⟩
theorem V_mmin {x y : Int32} {idx : Nat} (h : kf M pc = some (.invokestatic idx, n, t)) (hw : Cond.methodLink (my M).cls idx Lib.Math.min.name ∈ kU ∧ Cond.static Lib.Math.min.name ∈ kU ∧ Cond.initialized "java/lang/Math" ∈ kU ∧ Cond.code Lib.Math.min.name Lib.Math.min.code 2 (some .int) ∈ kU) (hfr : 1 ≤ mfr M) (hlo : (st.map fun v => v.category).sum + 13 ≤ mlo M) (kk : V K bc bs M n lc (.int (if y < x then y else x) :: st) G Q) : V K bc bs M pc lc (.int y :: .int x :: st) G Q := by
  intro hM p e R s m args below meth c H locs cells slots ls hC hB hS hH hL
  obtain ⟨hd, hn, -⟩ := hM.dec h rfl
  subst hn
  have hts := hC.2.2.2.2.2.2.2.2.1
  exact va_mmin hC.1 hC.2.1 (hC.2.2.1.trans hL.1.symm) hC.2.2.2.2.2.2.1 (hts _ hw.1) (hts _ hw.2.1) (hts _ hw.2.2.1) (hts _ hw.2.2.2) (Nat.le_trans hfr hB.1) (by rw [ksh_sum]; exact Nat.le_trans hlo hB.2.1) (Nat.le_trans (Nat.le_add_right _ _) hB.2.2.1) (Nat.le_trans (Nat.le_add_right _ _) hB.2.2.2) hd (kk hM p e R s m args below meth c H locs cells slots ls hC hB hS hH hL)
theorem c_fillI {a N v : Nat} {g : Nat → Nat} (ha : G.1 a = some (BA N g)) (hN : N < 2 ^ 30) (hq : Q (.inl none) (hup G a (BA N (fun j => if j < N then v else g j)))) : C K 0 0 mJ7_fill_53178 [.ref a, .int (nI v)] G Q := by
  refine C_of okJ7_fill_53178 (Nat.le_of_ble_eq_true rfl) ?_
  refine V_iconst (v := nI 0) rfl (by decide) ?_
  refine V_istore_n rfl (by decide) ?_
  refine V_aload_n rfl (by first | rfl | assumption) ?_
  refine V_alen rfl (by repeat (first | exact hup_eq | assumption | refine Eq.trans (hup_ne (by first | assumption | exact Ne.symm (by assumption) | decide)) ?_)) (by decide) ?_
  refine V_istore_n rfl (by decide) ?_
  refine V_loop N (fun i lc G' => lc 0 = some (.ref a) ∧ lc 1 = some (.int (nI v)) ∧ lc 2 = some (.int (nI i)) ∧ lc 3 = some (.int (nI N)) ∧ G' = hup G a (BA N (fun j => if j < i then v else g j))) ?_ ?_ 0 _ _ (Nat.zero_le _) ⟨rfl, rfl, rfl, rfl, (hup_same (by simpa using ha)).symm⟩
  · rintro i lc G' hi ⟨l0, l1, l2, l3, rfl⟩ ih
    refine V_iload_n rfl (by first | rfl | assumption) ?_
    refine V_iload_n rfl (by first | rfl | assumption) ?_
    refine V_icmp_geN rfl (by omega) (by omega) (fun h => absurd h (by omega)) (fun _ => ?_)
    refine V_aload_n rfl (by first | rfl | assumption) ?_
    refine V_iload_n rfl (by first | rfl | assumption) ?_
    refine V_iload_n rfl (by first | rfl | assumption) ?_
    refine V_iastN rfl (by repeat (first | exact hup_eq | assumption | refine Eq.trans (hup_ne (by first | assumption | exact Ne.symm (by assumption) | decide)) ?_)) rfl (by first | omega | decide) (by first | omega | decide) ?_
    refine V_iincN (d := 1) rfl (by first | rfl | assumption) (by decide) (by decide) ?_
    refine V_goto rfl ?_
    rw [hup_hup]
    refine ih _ _ ⟨l0, l1, rfl, l3, ?_⟩
    refine congrArg (fun e => hup G a (BA N e)) ?_
    funext j
    by_cases h1 : j = i
    · rw [h1, updN_eq, if_pos (by omega)]
    · rw [updN_ne h1]
      by_cases h2 : j < i
      · rw [if_pos h2, if_pos (by omega)]
      · rw [if_neg h2, if_neg (by omega)]
  · rintro lc G' ⟨l0, l1, l2, l3, rfl⟩
    refine V_iload_n rfl (by first | rfl | assumption) ?_
    refine V_iload_n rfl (by first | rfl | assumption) ?_
    refine V_icmp_geN rfl (by omega) (by omega) (fun _ => ?_) (fun h => absurd (Nat.le_refl _) h)
    exact V_vret rfl rfl hq
abbrev TGO : kE := .inr (8, [.ref 25, .ref 26, .ref 27, .ref 28, .ref 29])
theorem nI_and (a b : Nat) (hb : b < 2 ^ 32) : nI a &&& nI b = nI (a &&& b) := by
  apply Int32.toBitVec_inj.mp
  show BitVec.ofNat 32 a &&& BitVec.ofNat 32 b = BitVec.ofNat 32 (a &&& b)
  apply BitVec.eq_of_toNat_eq
  rw [BitVec.toNat_and, BitVec.toNat_ofNat, BitVec.toNat_ofNat, BitVec.toNat_ofNat, Nat.and_mod_two_pow]
set_option maxHeartbeats 8000000 in
theorem c_readFactor {k0 Nk : Nat} {key p0 r0 : Nat → Nat} (g24 : G.1 24 = some TGO) (g26 : G.1 26 = some (BA 17 p0)) (g27 : G.1 27 = some (LA 5 r0)) (gk : G.1 k0 = some (BA Nk key)) (hNk : 32 ≤ Nk ∧ Nk < 2 ^ 20) (hkb : ∀ j, j < 32 → key j < 256)
    (hq : ∀ p r, vs (2 ^ 26) r 5 = rK key → (∀ j, j < 5 → r j < 2 ^ 26) → r 4 < 2 ^ 20 → Q (.inl none) (hup (hup G 26 (BA 17 p)) 27 (LA 5 r))) : C K 0 0 mX9_readFactor [.ref 24, .ref k0] G Q := by
  refine C_of okX9_readFactor (Nat.le_of_ble_eq_true rfl) ?_
  refine V_aload_n rfl (by first | rfl | assumption) ?_
  refine V_iconst (v := nI 0) rfl (by decide) ?_
  refine V_aload_n rfl (by first | rfl | assumption) ?_
  refine V_getf rfl rfl rfl (by repeat (first | exact hup_eq | assumption | refine Eq.trans (hup_ne (by first | assumption | exact Ne.symm (by assumption) | decide)) ?_)) (by first | rfl | assumption) ?_
  refine V_iconst (v := nI 0) rfl (by decide) ?_
  refine V_bipush (v := nI 16) rfl (by decide) ?_
  refine V_copyi (st := []) rfl ⟨kk_X9_58, k_ac⟩ gk g26 (by decide) (by decide) (by decide) (by show 0 + 16 ≤ Nk; omega) (by decide) (by decide) (by decide) ?_
  rw [show (nI 0).toNatClampNeg = 0 by decide, show (nI 16).toNatClampNeg = 16 by decide, cpyB]
  refine V_iconst (v := nI 3) rfl (by decide) ?_
  refine V_istore_n rfl (by decide) ?_
  refine V_loop 4 (fun m lc G' => lc 0 = some (.ref 24) ∧ lc 2 = some (.int (nI (3 + 4 * m))) ∧ ∃ p, (∀ j, j < 16 → p j = if j % 4 = 3 ∧ j < 4 * m then key j &&& 15 else key j) ∧ G' = hup G 26 (BA 17 p)) ?_ ?_ 0 _ _ (Nat.zero_le _) ⟨rfl, rfl, _, fun j hj => ?_, rfl⟩
  · rintro m lc G' hm ⟨l0, l2, p, hp, rfl⟩ ih
    refine V_iload_n rfl (by first | rfl | assumption) ?_
    refine V_bipush (v := nI 16) rfl (by decide) ?_
    refine V_icmp_geN rfl (by omega) (by decide) (fun h => absurd h (by omega)) (fun _ => ?_)
    refine V_aload_n rfl (by first | rfl | assumption) ?_
    refine V_getf rfl rfl rfl (by repeat (first | exact hup_eq | assumption | refine Eq.trans (hup_ne (by first | assumption | exact Ne.symm (by assumption) | decide)) ?_)) (by first | rfl | assumption) ?_
    refine V_iload_n rfl (by first | rfl | assumption) ?_
    refine V_dup2 rfl rfl rfl ?_
    refine V_ialdN rfl (by repeat (first | exact hup_eq | assumption | refine Eq.trans (hup_ne (by first | assumption | exact Ne.symm (by assumption) | decide)) ?_)) rfl (by first | omega | decide) (by first | omega | decide) ?_
    refine V_bipush (v := nI 15) rfl (by decide) ?_
    refine V_iand rfl ?_
    rw [nI_and _ _ (by decide), hp _ (by omega), if_neg (by omega)]
    refine V_iastN rfl (by repeat (first | exact hup_eq | assumption | refine Eq.trans (hup_ne (by first | assumption | exact Ne.symm (by assumption) | decide)) ?_)) rfl (by first | omega | decide) (by first | omega | decide) ?_
    refine V_iincN (d := 4) rfl (by first | rfl | assumption) (by decide) (by decide) ?_
    refine V_goto rfl ?_
    rw [hup_hup]
    refine ih _ _ ⟨l0, rfl, _, fun j hj => ?_, rfl⟩
    by_cases e : j = 3 + 4 * m
    · rw [e, updN_eq, if_pos (by omega)]
    · rw [updN_ne e, hp j hj]
      by_cases g : j % 4 = 3 ∧ j < 4 * m
      · rw [if_pos g, if_pos (by omega)]
      · rw [if_neg g, if_neg (by omega)]
  · rintro lc G' ⟨l0, l2, p, hp, rfl⟩
    refine V_iload_n rfl (by first | rfl | assumption) ?_
    refine V_bipush (v := nI 16) rfl (by decide) ?_
    refine V_icmp_geN rfl (by decide) (by decide) (fun _ => ?_) (fun h => absurd (by decide) h)
    refine V_iconst (v := nI 4) rfl (by decide) ?_
    refine V_istore_n rfl (by decide) ?_
    refine V_loop 3 (fun m lc G' => lc 0 = some (.ref 24) ∧ lc 2 = some (.int (nI (4 + 4 * m))) ∧ ∃ p, (∀ j, j < 16 → p j = if j % 4 = 3 then key j &&& 15 else if j % 4 = 0 ∧ j ≠ 0 ∧ j < 4 + 4 * m then key j &&& 252 else key j) ∧ G' = hup G 26 (BA 17 p)) ?_ ?_ 0 _ _ (Nat.zero_le _) ⟨l0, rfl, p, fun j hj => ?_, rfl⟩
    · rintro m lc G' hm ⟨l0, l2, p, hp, rfl⟩ ih
      refine V_iload_n rfl (by first | rfl | assumption) ?_
      refine V_bipush (v := nI 16) rfl (by decide) ?_
      refine V_icmp_geN rfl (by omega) (by decide) (fun h => absurd h (by omega)) (fun _ => ?_)
      refine V_aload_n rfl (by first | rfl | assumption) ?_
      refine V_getf rfl rfl rfl (by repeat (first | exact hup_eq | assumption | refine Eq.trans (hup_ne (by first | assumption | exact Ne.symm (by assumption) | decide)) ?_)) (by first | rfl | assumption) ?_
      refine V_iload_n rfl (by first | rfl | assumption) ?_
      refine V_dup2 rfl rfl rfl ?_
      refine V_ialdN rfl (by repeat (first | exact hup_eq | assumption | refine Eq.trans (hup_ne (by first | assumption | exact Ne.symm (by assumption) | decide)) ?_)) rfl (by first | omega | decide) (by first | omega | decide) ?_
      refine V_sipush (v := nI 252) rfl (by decide) ?_
      refine V_iand rfl ?_
      rw [nI_and _ _ (by decide), hp _ (by omega), if_neg (by omega), if_neg (by omega)]
      refine V_iastN rfl (by repeat (first | exact hup_eq | assumption | refine Eq.trans (hup_ne (by first | assumption | exact Ne.symm (by assumption) | decide)) ?_)) rfl (by first | omega | decide) (by first | omega | decide) ?_
      refine V_iincN (d := 4) rfl (by first | rfl | assumption) (by decide) (by decide) ?_
      refine V_goto rfl ?_
      rw [hup_hup]
      refine ih _ _ ⟨l0, rfl, _, fun j hj => ?_, rfl⟩
      by_cases e : j = 4 + 4 * m
      · rw [e, updN_eq, if_neg (by omega), if_pos (by omega)]
      · rw [updN_ne e, hp j hj]
        by_cases g : j % 4 = 3
        · rw [if_pos g, if_pos g]
        · rw [if_neg g, if_neg g]
          by_cases g2 : j % 4 = 0 ∧ j ≠ 0 ∧ j < 4 + 4 * m
          · rw [if_pos g2, if_pos (by omega)]
          · rw [if_neg g2, if_neg (by omega)]
    · rintro lc G' ⟨l0, l2, p, hp, rfl⟩
      refine V_iload_n rfl (by first | rfl | assumption) ?_
      refine V_bipush (v := nI 16) rfl (by decide) ?_
      refine V_icmp_geN rfl (by decide) (by decide) (fun _ => ?_) (fun h => absurd (by decide) h)
      have hpc : ∀ j, j < 16 → p j = ck key j := fun j hj => by
        rw [hp j hj]
        unfold ck
        by_cases g : j % 4 = 3
        · rw [if_pos g, if_pos g]
        · rw [if_neg g, if_neg g]
          by_cases g2 : j % 4 = 0 ∧ j ≠ 0
          · rw [if_pos (by omega), if_pos g2]
          · rw [if_neg (by omega), if_neg g2]
      have hpl : ∀ j, j < 16 → p j < 256 := fun j hj => by
        have hk := hkb j (by omega)
        rw [hpc j hj]
        unfold ck
        split
        · exact Nat.lt_of_le_of_lt Nat.and_le_left hk
        · split
          · exact Nat.lt_of_le_of_lt Nat.and_le_left hk
          · exact hk
      have hp15 : p 15 ≤ 15 := by
        rw [hpc 15 (by decide)]
        exact Nat.and_le_right
      refine V_aload_n rfl (by first | rfl | assumption) ?_
      refine V_getf rfl rfl rfl (by repeat (first | exact hup_eq | assumption | refine Eq.trans (hup_ne (by first | assumption | exact Ne.symm (by assumption) | decide)) ?_)) (by first | rfl | assumption) ?_
      refine V_iconst (v := nI 0) rfl (by decide) ?_
      refine V_bipush (v := nI 16) rfl (by decide) ?_
      refine V_aload_n rfl (by first | rfl | assumption) ?_
      refine V_getf rfl rfl rfl (by repeat (first | exact hup_eq | assumption | refine Eq.trans (hup_ne (by first | assumption | exact Ne.symm (by assumption) | decide)) ?_)) (by first | rfl | assumption) ?_
      refine V_callS (M' := mX5_read) (mc := 0) (ms := 0) (bc' := 0) (bs' := 0) rfl cw_X9_64 is_X5_read rfl (Nat.le_of_ble_eq_true rfl) ⟨Nat.le_of_ble_eq_true rfl, Nat.le_of_ble_eq_true rfl⟩ ⟨Nat.le_of_ble_eq_true rfl, Nat.le_of_ble_eq_true rfl⟩ (As := [.ref 26, .int (nI 0), .int (nI 16), .ref 27]) (c_readV (b := p) (Q := fun o G' => o = .inl none ∧ ∃ r, vs (2 ^ 26) r 5 = vs 256 p 16 ∧ (∀ j, j < 4 → r j < 2 ^ 26) ∧ r 4 < 2 ^ 24 ∧ G' = hup (hup G 26 (BA 17 p)) 27 (LA 5 r)) (by repeat (first | exact hup_eq | assumption | refine Eq.trans (hup_ne (by first | assumption | exact Ne.symm (by assumption) | decide)) ?_)) (by repeat (first | exact hup_eq | assumption | refine Eq.trans (hup_ne (by first | assumption | exact Ne.symm (by assumption) | decide)) ?_)) (by decide) (by decide) (by decide) (by decide) (fun j hj => by rw [Nat.zero_add]; exact hpl j hj) (by decide) (by decide) (fun U u1 u2 u3 => ⟨rfl, U, by simpa using u1, u2, u3, rfl⟩)) (fun o G' h => ?_) (fun E G' h => by cases h.1)
      obtain ⟨h, r, hr1, hr2, hr3, rfl⟩ := h
      cases h
      refine V_vret rfl rfl (hq p r ?_ (fun j hj => ?_) ?_)
      · rw [hr1]
        exact vs_congr hpc
      · by_cases e : j = 4
        · rw [e]; omega
        · exact hr2 j (by omega)
      · have e1 : vs 256 p 16 = vs 256 p 15 + p 15 * 256 ^ 15 := rfl
        have e2 := vs_lt (B := 256) (n := 15) (v := p) (by decide) (fun j hj => hpl j (by omega))
        have e3 : vs (2 ^ 26) r 5 = vs (2 ^ 26) r 4 + r 4 * (2 ^ 26) ^ 4 := rfl
        have e4 : p 15 * 256 ^ 15 ≤ 15 * 256 ^ 15 := Nat.mul_le_mul_right _ hp15
        rw [hr1, e1] at e3
        generalize vs 256 p 15 = a at *
        generalize vs (2 ^ 26) r 4 = b at *
        generalize p 15 = c at *
        generalize r 4 = d at *
        simp only [show (256 : Nat) ^ 15 = 1329227995784915872903807060280344576 by decide, show ((2 : Nat) ^ 26) ^ 4 = 20282409603651670423947251286016 by decide] at *
        omega
    · rw [hp j hj]
      by_cases g : j % 4 = 3
      · rw [if_pos (by omega), if_pos g]
      · rw [if_neg (by omega), if_neg g, if_neg (by omega)]
  · rw [if_neg (by omega)]
    show (if j < 16 then key j else p0 j) = _
    rw [if_pos hj]
end CTag
