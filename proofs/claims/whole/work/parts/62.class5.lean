section CClass5
variable {K : kK} {G : kG} {Q : kO → kG → Prop}
theorem c_copyOf {t h b u h' b' : Nat} {m0 mk : Bool} {f g : Nat → Nat} {x y : Nat → Nat} (gt9 : G.1 t = some (KYO h b m0)) (gu : G.1 u = some (KYO h' b' mk)) (hm : mk = true) (gh : G.1 h = some (BA 32 x)) (gb : G.1 b = some (BA 32 y)) (r1 : Rb G h' 32 f) (r2 : Rb G b' 32 g) (hd : t ≠ h ∧ t ≠ b ∧ u ≠ h ∧ u ≠ b ∧ h ≠ b ∧ h' ≠ h ∧ b' ≠ h ∧ b' ≠ b ∧ t ≠ u) (hq : ∀ G', FP (fun j => j = t ∨ j = h ∨ j = b) G G' → G'.1 t = some (KYO h b true) → Rb G' h 32 f → Rb G' b 32 g → Q (.inl none) G') : C K 0 0 mX4_copyOf [.ref t, .ref u] G Q := by
  subst hm
  obtain ⟨h9, h1, h2, h3⟩ := r1
  obtain ⟨b9, b1, b2, b3⟩ := r2
  refine C_of okX4_copyOf (Nat.le_of_ble_eq_true rfl) ?_
  refine V_aload_n rfl (by first | rfl | assumption) ?_
  refine V_getf rfl rfl rfl (by repeat (first | exact hup_eq | assumption | refine Eq.trans (hup_ne (by first | assumption | exact Ne.symm (by assumption) | decide | omega)) ?_)) (by first | rfl | assumption) ?_
  refine V_iconst (v := nI 0) rfl (by decide) ?_
  refine V_aload_n rfl (by first | rfl | assumption) ?_
  refine V_getf rfl rfl rfl (by repeat (first | exact hup_eq | assumption | refine Eq.trans (hup_ne (by first | assumption | exact Ne.symm (by assumption) | decide | omega)) ?_)) (by first | rfl | assumption) ?_
  refine V_iconst (v := nI 0) rfl (by decide) ?_
  refine V_bipush (v := nI 32) rfl (by decide) ?_
  refine V_copyi (st := []) rfl ⟨kk_X4_18, k_ac⟩ h1 gh (by decide) (by decide) (by decide) (by decide) (by decide) (by decide) (by decide) ?_
  rw [show (nI 0).toNatClampNeg = 0 by decide, show (nI 32).toNatClampNeg = 32 by decide, cpyB]
  have e1 : t ≠ h := hd.1
  have e2 : u ≠ h := hd.2.2.1
  have e3 : t ≠ b := hd.2.1
  have e4 : u ≠ b := hd.2.2.2.1
  refine V_aload_n rfl (by first | rfl | assumption) ?_
  refine V_getf rfl rfl rfl (by repeat (first | exact hup_eq | assumption | refine Eq.trans (hup_ne (by first | assumption | exact Ne.symm (by assumption) | decide | omega)) ?_)) (by first | rfl | assumption) ?_
  refine V_iconst (v := nI 0) rfl (by decide) ?_
  refine V_aload_n rfl (by first | rfl | assumption) ?_
  refine V_getf rfl rfl rfl (by repeat (first | exact hup_eq | assumption | refine Eq.trans (hup_ne (by first | assumption | exact Ne.symm (by assumption) | decide | omega)) ?_)) (by first | rfl | assumption) ?_
  refine V_iconst (v := nI 0) rfl (by decide) ?_
  refine V_bipush (v := nI 32) rfl (by decide) ?_
  refine V_copyi (st := []) (f := fun j => nI (b9 j)) (g := fun j => nI (y j)) (n0 := 32) (n1 := 32) rfl ⟨kk_X4_18, k_ac⟩ ((hup_ne (by omega)).trans b1) ((hup_ne (by omega)).trans gb) (by decide) (by decide) (by decide) (by decide) (by decide) (by decide) (by decide) ?_
  rw [show (nI 0).toNatClampNeg = 0 by decide, show (nI 32).toNatClampNeg = 32 by decide, cpyB]
  refine V_aload_n rfl (by first | rfl | assumption) ?_
  refine V_aload_n rfl (by first | rfl | assumption) ?_
  refine V_getf rfl rfl rfl (by repeat (first | exact hup_eq | assumption | refine Eq.trans (hup_ne (by first | assumption | exact Ne.symm (by assumption) | decide | omega)) ?_)) (by first | rfl | assumption) ?_
  refine V_putf rfl rfl rfl rfl (by repeat (first | exact hup_eq | assumption | refine Eq.trans (hup_ne (by first | assumption | exact Ne.symm (by assumption) | decide | omega)) ?_)) (Nat.le_of_ble_eq_true rfl) (by first | exact ⟨rfl, rfl⟩ | (constructor <;> decide)) ?_
  refine V_vret rfl rfl (hq _ (((FP.rf.hup (Or.inr (Or.inl rfl))).hup (Or.inr (Or.inr rfl))).hup (Or.inl rfl)) hup_eq ⟨_, (hup_ne (by omega)).trans ((hup_ne (by omega)).trans hup_eq), fun j hj => ?_, h3⟩ ⟨_, (hup_ne (by omega)).trans hup_eq, fun j hj => ?_, b3⟩)
  · rw [if_pos hj]; exact h2 j hj
  · rw [if_pos hj]; exact b2 j hj
theorem c_forget {E : Nat} {a b c d e : Bool} (g : G.1 (E + 38) = some (XO E a b c d e)) (hq : Q (.inl none) (hup G (E + 38) (XO E false false false false false))) : C K 0 0 mX2_forget [.ref (E + 38)] G Q := by
  refine C_of okX2_forget (Nat.le_of_ble_eq_true rfl) ?_
  refine V_aload_n rfl (by first | rfl | assumption) ?_
  refine V_iconst (v := nI 0) rfl (by decide) ?_
  refine V_putf rfl rfl rfl rfl (by repeat (first | exact hup_eq | assumption | refine Eq.trans (hup_ne (by first | assumption | exact Ne.symm (by assumption) | decide | omega)) ?_)) (Nat.le_of_ble_eq_true rfl) (by first | exact ⟨rfl, rfl⟩ | (constructor <;> decide)) ?_
  refine V_aload_n rfl (by first | rfl | assumption) ?_
  refine V_iconst (v := nI 0) rfl (by decide) ?_
  refine V_putf rfl rfl rfl rfl (by repeat (first | exact hup_eq | assumption | refine Eq.trans (hup_ne (by first | assumption | exact Ne.symm (by assumption) | decide | omega)) ?_)) (Nat.le_of_ble_eq_true rfl) (by first | exact ⟨rfl, rfl⟩ | (constructor <;> decide)) ?_
  refine V_aload_n rfl (by first | rfl | assumption) ?_
  refine V_iconst (v := nI 0) rfl (by decide) ?_
  refine V_putf rfl rfl rfl rfl (by repeat (first | exact hup_eq | assumption | refine Eq.trans (hup_ne (by first | assumption | exact Ne.symm (by assumption) | decide | omega)) ?_)) (Nat.le_of_ble_eq_true rfl) (by first | exact ⟨rfl, rfl⟩ | (constructor <;> decide)) ?_
  refine V_aload_n rfl (by first | rfl | assumption) ?_
  refine V_iconst (v := nI 0) rfl (by decide) ?_
  refine V_putf rfl rfl rfl rfl (by repeat (first | exact hup_eq | assumption | refine Eq.trans (hup_ne (by first | assumption | exact Ne.symm (by assumption) | decide | omega)) ?_)) (Nat.le_of_ble_eq_true rfl) (by first | exact ⟨rfl, rfl⟩ | (constructor <;> decide)) ?_
  refine V_aload_n rfl (by first | rfl | assumption) ?_
  refine V_iconst (v := nI 0) rfl (by decide) ?_
  refine V_putf rfl rfl rfl rfl (by repeat (first | exact hup_eq | assumption | refine Eq.trans (hup_ne (by first | assumption | exact Ne.symm (by assumption) | decide | omega)) ?_)) (Nat.le_of_ble_eq_true rfl) (by first | exact ⟨rfl, rfl⟩ | (constructor <;> decide)) ?_
  simp only [hup_hup]
  exact V_vret rfl rfl hq
set_option maxHeartbeats 16000000 in
theorem c_finishExchange {e : Nat} {S : SG} (he : e < 2) (h : RC S G) (h5 : fl (S.1 e) 5 = true) (hq : ∀ G', FP (fun j => 32 ≤ j ∧ j ≤ 123) G G' → RC (sE S e (fin (S.1 e))) G' → Q (.inl none) G') : C K 0 0 mX1_finishExchange [.ref (EB e)] G Q := by
  have hEe : EB e = 32 + 46 * e := rfl
  obtain ⟨x1, x2, x3, x4, x5, x6, ⟨⟨y1, y2, y3⟩, y4, y5, y6⟩, k1, k2, k3, k4, ⟨pf, k5, k5'⟩, ⟨mk, k6, k6'⟩, k7, k8⟩ := h.2 e he
  obtain ⟨y5b, y5c, -⟩ := id y5
  obtain ⟨y6b, y6c, -⟩ := id y6
  have FA : FP (fun j => j = EB e ∨ (EB e + 35 ≤ j ∧ j ≤ EB e + 38)) G G := FP.rf
  refine C_of okX1_finishExchange (Nat.le_of_ble_eq_true rfl) ?_

  refine V_aload_n rfl (by first | rfl | assumption) ?_
  refine V_getf rfl rfl rfl (by repeat (first | exact hup_eq | assumption | refine Eq.trans (hup_ne (by first | assumption | exact Ne.symm (by assumption) | decide | omega)) ?_)) (by first | rfl | assumption) ?_
  refine V_aload_n rfl (by first | rfl | assumption) ?_
  refine V_getf rfl rfl rfl (by repeat (first | exact hup_eq | assumption | refine Eq.trans (hup_ne (by first | assumption | exact Ne.symm (by assumption) | decide | omega)) ?_)) (by first | rfl | assumption) ?_
  refine V_getf rfl rfl rfl (by repeat (first | exact hup_eq | assumption | refine Eq.trans (hup_ne (by first | assumption | exact Ne.symm (by assumption) | decide | omega)) ?_)) (by first | rfl | assumption) ?_
  refine V_callV (M' := mX4_copyOf) (mc := 0) (ms := 0) (bc' := 0) (bs' := 0) rfl cw_X1_65 iv_X4_copyOf (by repeat (first | exact hup_eq | assumption | refine Eq.trans (hup_ne (by first | assumption | exact Ne.symm (by assumption) | decide | omega)) ?_)) rfl rfl (Nat.le_of_ble_eq_true rfl) ⟨Nat.le_of_ble_eq_true rfl, Nat.le_of_ble_eq_true rfl⟩ ⟨Nat.le_of_ble_eq_true rfl, Nat.le_of_ble_eq_true rfl⟩ (As := [.ref (EB e + 43)]) (c_copyOf (Q := fun o G1 => o = .inl none ∧ FP (fun j => j = EB e + 35 ∨ j = EB e + 36 ∨ j = EB e + 37) G G1 ∧ G1.1 (EB e + 35) = some (KYO (EB e + 36) (EB e + 37) true) ∧ Rb G1 (EB e + 36) 32 (rw9 (S.1 e) 10) ∧ Rb G1 (EB e + 37) 32 (rw9 (S.1 e) 11)) y4 k6 (k6' h5) y5c y6c k7 k8 (by omega) (fun G1 q0 q1 q2 q3 => ⟨rfl, q0, q1, q2, q3⟩)) (fun o G1 h => ?_) (fun E G' h => by cases h.1)
  obtain ⟨h0, F1, i35, r36, r37⟩ := h
  cases h0
  have x1 := F1.get (by omega) x1
  have k1 := F1.get (by omega) k1
  have FA := FA.trans F1 (fun x hx => by omega)
  refine V_aload_n rfl (by first | rfl | assumption) ?_
  refine V_getf rfl rfl rfl (by repeat (first | exact hup_eq | assumption | refine Eq.trans (hup_ne (by first | assumption | exact Ne.symm (by assumption) | decide | omega)) ?_)) (by first | rfl | assumption) ?_
  refine V_callV (M' := mX2_forget) (mc := 0) (ms := 0) (bc' := 0) (bs' := 0) rfl cw_X1_69 iv_X2_forget (by repeat (first | exact hup_eq | assumption | refine Eq.trans (hup_ne (by first | assumption | exact Ne.symm (by assumption) | decide | omega)) ?_)) rfl rfl (Nat.le_of_ble_eq_true rfl) ⟨Nat.le_of_ble_eq_true rfl, Nat.le_of_ble_eq_true rfl⟩ ⟨Nat.le_of_ble_eq_true rfl, Nat.le_of_ble_eq_true rfl⟩ (As := []) (c_forget (E := EB e) (Q := fun o G2 => o = .inl none ∧ FP (fun j => j = EB e + 38) G1 G2 ∧ G2.1 (EB e + 38) = some (XO (EB e) false false false false false)) k1 ⟨rfl, FP.rf.hup rfl, hup_eq⟩) (fun o G2 h => ?_) (fun E G' h => by cases h.1)
  obtain ⟨h0, F2, i38⟩ := h
  cases h0
  have x1 := F2.get (by omega) x1
  have FA := FA.trans F2 (fun x hx => by omega)
  have i35 := F2.get (by omega) i35
  have r36 := r36.fp (F2.2 _ (by omega))
  have r37 := r37.fp (F2.2 _ (by omega))
  refine V_aload_n rfl (by first | rfl | assumption) ?_
  refine V_dup rfl rfl ?_
  refine V_getf rfl rfl rfl (by repeat (first | exact hup_eq | assumption | refine Eq.trans (hup_ne (by first | assumption | exact Ne.symm (by assumption) | decide | omega)) ?_)) (by first | rfl | assumption) ?_
  refine V_iconst (v := nI 1) rfl (by decide) ?_
  refine V_iaddN rfl ?_
  refine V_putf rfl rfl rfl rfl (by repeat (first | exact hup_eq | assumption | refine Eq.trans (hup_ne (by first | assumption | exact Ne.symm (by assumption) | decide | omega)) ?_)) (Nat.le_of_ble_eq_true rfl) (by first | exact ⟨rfl, rfl⟩ | (constructor <;> decide)) ?_
  show V K 0 0 _ _ _ _ (hup G2 (EB e) (ENO (EB e) (fin (S.1 e)))) Q
  obtain ⟨G3, hG3⟩ : ∃ G3, G3 = hup G2 (EB e) (ENO (EB e) (fin (S.1 e))) := ⟨_, rfl⟩
  rw [← hG3]
  have F3 : FP (fun j => j = EB e) G2 G3 := by rw [hG3]; exact FP.rf.hup rfl
  have i0 : G3.1 (EB e) = some (ENO (EB e) (fin (S.1 e))) := by rw [hG3]; exact hup_eq
  clear hG3
  have FA := FA.trans F3 (fun x hx => by omega)
  have i35 := F3.get (by omega) i35
  have r36 := r36.fp (F3.2 _ (by omega))
  have r37 := r37.fp (F3.2 _ (by omega))
  have i38 := F3.get (by omega) i38
  refine V_vret rfl rfl (hq G3 (FA.sub (fun x hx => by omega)) ⟨?_, fun k hk => ?_⟩)
  · obtain ⟨m', b', q1', q2'⟩ := h.1.2.2.2.2.2.2.2.2.1
    exact h.1.sl (h.1.2.2.1.fp (fun j a c => FA.2 j (by omega))) ⟨m', b', FA.get (by omega) q1', FA.get (by omega) q2'⟩ (fun j hj => FA.2 j (by omega))
  · by_cases ek : k = e
    · subst ek
      show RE (EB k) (up S.1 k _ k) _
      rw [up_eq]
      have D : ∀ j, EB k ≤ j → j ≤ EB k + 45 → j ≠ EB k → ¬ (EB k + 35 ≤ j ∧ j ≤ EB k + 38) → G3.1 j = G.1 j := fun j a b c d => FA.2 j (by omega)
      exact ⟨i0, x2.fp (D _ (by omega) (by omega) (by omega) (by omega)), x3.fp (D _ (by omega) (by omega) (by omega) (by omega)), x4.fp (D _ (by omega) (by omega) (by omega) (by omega)), x5.fp (D _ (by omega) (by omega) (by omega) (by omega)) (D _ (by omega) (by omega) (by omega) (by omega)), x6.fp (fun j a c => D j (by omega) (by omega) (by omega) (by omega)), ⟨⟨(D _ (by omega) (by omega) (by omega) (by omega)).trans y1, y2.fp (D _ (by omega) (by omega) (by omega) (by omega)), y3.fp (D _ (by omega) (by omega) (by omega) (by omega))⟩, i35, r36, r37⟩, i38, k2.fp (D _ (by omega) (by omega) (by omega) (by omega)), k3.fp (D _ (by omega) (by omega) (by omega) (by omega)), k4.fp (D _ (by omega) (by omega) (by omega) (by omega)), ⟨pf, k5.fp (D _ (by omega) (by omega) (by omega) (by omega)), fun q => Bool.noConfusion q⟩, ⟨mk, (D _ (by omega) (by omega) (by omega) (by omega)).trans k6, fun q => Bool.noConfusion q⟩, k7.fp (D _ (by omega) (by omega) (by omega) (by omega)), k8.fp (D _ (by omega) (by omega) (by omega) (by omega))⟩
    · show RE (EB k) (up S.1 e _ k) _
      rw [up_ne ek]
      exact (h.2 k hk).fp (fun j a c => FA.2 j (by unfold EB at a c ⊢; omega))

end CClass5
