section MApi5
variable {K : kK} {G : kG} {Q : kO → kG → Prop} {T : TB} {S : SG} {th ta os hs ps rs : Int32}
theorem RMA.ob {t : Nat} (h : RMA T S th G) {hs ps rs : Int32} : RMA T S (nI t) (hup G 140 (MO (nI t) (nI (tpe S).length) (nI (lou S).length) hs ps rs)) := by
  obtain ⟨hR, ht, ho, _⟩ := h
  exact ⟨hR.ob, ht.fp (hup_ne (by decide)), ho.fp (hup_ne (by decide)), hs, ps, rs, hup_eq⟩
theorem c_Mgot {x y : Int32} (h : RMA T S th G) (hq : ∀ G', FP PM G G' → RMA T (aGt S x.toInt y.toInt).2.2 (nI (aGt S x.toInt y.toInt).1) G' → Q (.inl (some (.int (aGt S x.toInt y.toInt).2.1))) G') : C K 0 0 mX12_got [.ref 140, .int x, .int y] G Q := by
  obtain ⟨hR, ht, ho, hs, ps, rs, g140⟩ := id h
  refine C_of okX12_got (Nat.le_of_ble_eq_true rfl) ?_
  have t33 : ∀ t : Nat, 0 < t → t < 3 → aGt S x.toInt y.toInt = (t, 0, S) → V K 0 0 mX12_got 33 (kla [.ref 140, .int x, .int y]) [.int (nI t), .ref 140] G Q := by
    intro t h1 h2 U
    rw [U] at hq
    refine V_pf_th rfl rfl rfl (by repeat (first | exact hup_eq | assumption | refine Eq.trans (hup_ne (by first | assumption | exact Ne.symm (by assumption) | decide | omega)) ?_)) ?_
    refine V_aload_n rfl (by first | rfl | assumption) ?_
    refine V_getf rfl rfl rfl (by repeat (first | exact hup_eq | assumption | refine Eq.trans (hup_ne (by first | assumption | exact Ne.symm (by assumption) | decide | omega)) ?_)) (by first | rfl | assumption) ?_
    refine V_if_leN rfl (by omega) (fun z => absurd z (by omega)) (fun _ => ?_)
    refine V_iconst (v := 0) rfl (by decide) ?_
    refine V_goto rfl ?_
    exact V_iret rfl rfl (hq _ (FP.rf.hup (by decide)) h.ob)
  have bad1 : ¬ (x.toInt = 0 ∨ x.toInt = 1) → V K 0 0 mX12_got 10 (kla [.ref 140, .int x, .int y]) [.ref 140] G Q := fun z => by
    refine V_iconst (v := nI 1) rfl (by decide) ?_
    refine V_goto rfl ?_
    exact t33 1 (by decide) (by decide) (by unfold aGt; rw [if_pos z])
  refine V_aload_n rfl (by rfl) ?_
  refine V_iload_n rfl (by rfl) ?_
  refine V_if_ltZ rfl rfl (fun z => bad1 (by omega)) (fun z1 => ?_)
  refine V_iload_n rfl (by rfl) ?_
  refine V_iconst (v := 1) rfl (by decide) ?_
  refine V_icmp_leZ (b := 1) rfl rfl (by decide) (fun z2 => ?_) (fun z => bad1 (by omega))
  clear bad1
  obtain ⟨e, he, hxe, hxi⟩ := e_of z1 z2
  rw [hxi] at hq t33
  clear z1 z2 hxi
  subst hxe
  obtain ⟨g174, gb, g175, hgb, hg⟩ := id hR.2.2.2.2.2.2.1
  obtain ⟨L, hL⟩ : ∃ L, L = (gt (S.1 e)).length := ⟨_, rfl⟩
  have hL2 : L ≤ 2000 := by rw [hL]; exact (hg e he).1
  have bad2 : y.toInt < 0 ∨ (L : Int) ≤ y.toInt → V K 0 0 mX12_got 28 (kla [.ref 140, .int (nI e), .int y]) [.ref 140] G Q := fun z => by
    refine V_iconst (v := nI 2) rfl (by decide) ?_
    refine V_goto rfl ?_
    refine t33 2 (by decide) (by decide) ?_
    unfold aGt
    rw [if_neg (by omega)]
    exact if_pos (by rw [hL] at z; exact z)
  refine V_iload_n rfl (by rfl) ?_
  refine V_if_ltZ rfl rfl (fun z => bad2 (Or.inl z)) (fun z1 => ?_)
  refine V_iload_n rfl (by rfl) ?_
  refine V_aload_n rfl (by first | rfl | assumption) ?_
  refine V_getf rfl rfl rfl (by repeat (first | exact hup_eq | assumption | refine Eq.trans (hup_ne (by first | assumption | exact Ne.symm (by assumption) | decide | omega)) ?_)) (by first | rfl | assumption) ?_
  refine V_iload_n rfl (by first | rfl | assumption) ?_
  refine V_ialdN rfl (by repeat (first | exact hup_eq | assumption | refine Eq.trans (hup_ne (by first | assumption | exact Ne.symm (by assumption) | decide | omega)) ?_)) rfl (by first | omega | decide) (by first | omega | decide) ?_
  rw [← hL]
  refine V_icmp_ltZ (b := (L : Int)) rfl rfl (nI_toInt (by omega)) (fun z2 => ?_) (fun z => bad2 (Or.inr (by omega)))
  clear bad2 t33
  obtain ⟨hc1, hc2⟩ := i32_n (x := y) (by omega)
  obtain ⟨m, hm⟩ : ∃ m, m = y.toInt.toNat := ⟨_, rfl⟩
  have U : aGt S (e : Int) y.toInt = (0, nI (gD (gt (S.1 e)) m), S) := by
    unfold aGt
    rw [if_neg (by omega), hm]
    exact if_neg (by rw [hL] at z2; have z2 : y.toInt < ((gt (S.1 e)).length : Int) := z2; show ¬ (y.toInt < 0 ∨ ((gt (S.1 e)).length : Int) ≤ y.toInt); omega)
  rw [U] at hq
  rw [← hm] at hc1
  have hmL : m < L := by omega
  clear U z1 z2 hm
  subst hc1
  refine V_iconst (v := nI 0) rfl (by decide) ?_
  refine V_pf_th rfl rfl rfl (by repeat (first | exact hup_eq | assumption | refine Eq.trans (hup_ne (by first | assumption | exact Ne.symm (by assumption) | decide | omega)) ?_)) ?_
  refine V_aload_n rfl (by first | rfl | assumption) ?_
  refine V_getf rfl rfl rfl (by repeat (first | exact hup_eq | assumption | refine Eq.trans (hup_ne (by first | assumption | exact Ne.symm (by assumption) | decide | omega)) ?_)) (by first | rfl | assumption) ?_
  refine V_if_le rfl (fun _ => ?_) (fun z => absurd (by decide) z)
  have hb := hgb (2000 * e + m)
  refine V_aload_n rfl (by first | rfl | assumption) ?_
  refine V_getf rfl rfl rfl (by repeat (first | exact hup_eq | assumption | refine Eq.trans (hup_ne (by first | assumption | exact Ne.symm (by assumption) | decide | omega)) ?_)) (by first | rfl | assumption) ?_
  refine V_sipush (v := nI 2000) rfl (by decide) ?_
  refine V_iload_n rfl (by first | rfl | assumption) ?_
  refine V_imulN rfl ?_
  refine V_iload_n rfl (by first | rfl | assumption) ?_
  refine V_iaddN rfl ?_
  refine V_baldB rfl (by repeat (first | exact hup_eq | assumption | refine Eq.trans (hup_ne (by first | assumption | exact Ne.symm (by assumption) | decide | omega)) ?_)) rfl (by first | omega | decide) (by first | omega | decide) ?_
  refine V_sipush (v := nI 255) rfl (by decide) ?_
  refine V_bandB rfl (by first | assumption | solve_by_elim | exact Nat.mod_lt _ (by decide) | omega) ?_
  rw [(hg e he).2 m (by rw [← hL]; exact hmL)]
  exact V_iret rfl rfl (hq _ (FP.rf.hup (by decide)) h.ob)
theorem c_Msession {x y : Int32} (h : RMA T S th G) (hq : ∀ G', FP PM G G' → RMA T (aSs S x.toInt y.toInt).2.2 (nI (aSs S x.toInt y.toInt).1) G' → Q (.inl (some (.int (aSs S x.toInt y.toInt).2.1))) G') : C K 0 0 mX12_session [.ref 140, .int x, .int y] G Q := by
  obtain ⟨hR, ht, ho, hs, ps, rs, g140⟩ := id h
  refine C_of okX12_session (Nat.le_of_ble_eq_true rfl) ?_
  have t29 : ∀ t : Nat, 0 < t → t < 3 → aSs S x.toInt y.toInt = (t, 0, S) → V K 0 0 mX12_session 29 (kla [.ref 140, .int x, .int y]) [.int (nI t), .ref 140] G Q := by
    intro t h1 h2 U
    rw [U] at hq
    refine V_pf_th rfl rfl rfl (by repeat (first | exact hup_eq | assumption | refine Eq.trans (hup_ne (by first | assumption | exact Ne.symm (by assumption) | decide | omega)) ?_)) ?_
    refine V_aload_n rfl (by first | rfl | assumption) ?_
    refine V_getf rfl rfl rfl (by repeat (first | exact hup_eq | assumption | refine Eq.trans (hup_ne (by first | assumption | exact Ne.symm (by assumption) | decide | omega)) ?_)) (by first | rfl | assumption) ?_
    refine V_if_leN rfl (by omega) (fun z => absurd z (by omega)) (fun _ => ?_)
    refine V_iconst (v := 0) rfl (by decide) ?_
    exact V_iret rfl rfl (hq _ (FP.rf.hup (by decide)) h.ob)
  have bad1 : ¬ (x.toInt = 0 ∨ x.toInt = 1) → V K 0 0 mX12_session 10 (kla [.ref 140, .int x, .int y]) [.ref 140] G Q := fun z => by
    refine V_iconst (v := nI 1) rfl (by decide) ?_
    refine V_goto rfl ?_
    exact t29 1 (by decide) (by decide) (by unfold aSs; rw [if_pos z])
  refine V_aload_n rfl (by rfl) ?_
  refine V_iload_n rfl (by rfl) ?_
  refine V_if_ltZ rfl rfl (fun z => bad1 (by omega)) (fun z1 => ?_)
  refine V_iload_n rfl (by rfl) ?_
  refine V_iconst (v := 1) rfl (by decide) ?_
  refine V_icmp_leZ (b := 1) rfl rfl (by decide) (fun z2 => ?_) (fun z => bad1 (by omega))
  clear bad1
  obtain ⟨e, he, hxe, hxi⟩ := e_of z1 z2
  rw [hxi] at hq t29
  clear z1 z2 hxi
  subst hxe
  have f1 := hR.2.2.2.2.2.2.2.2.1.2.1
  obtain ⟨R, g157, hRP⟩ := id hR.2.1
  have bad2 : y.toInt < 0 ∨ 31 < y.toInt → V K 0 0 mX12_session 24 (kla [.ref 140, .int (nI e), .int y]) [.ref 140] G Q := fun z => by
    refine V_iconst (v := nI 2) rfl (by decide) ?_
    refine V_goto rfl ?_
    exact t29 2 (by decide) (by decide) (by unfold aSs; rw [if_neg (by omega), if_pos z])
  refine V_iload_n rfl (by rfl) ?_
  refine V_if_ltZ rfl rfl (fun z => bad2 (Or.inl z)) (fun z1 => ?_)
  refine V_iload_n rfl (by rfl) ?_
  refine V_bipush (v := 31) rfl (by decide) ?_
  refine V_icmp_leZ (b := 31) rfl rfl (by decide) (fun z2 => ?_) (fun z => bad2 (Or.inr (by omega)))
  clear bad2 t29
  obtain ⟨hc1, hc2⟩ := i32_n (x := y) (by omega)
  obtain ⟨m, hm⟩ : ∃ m, m = y.toInt.toNat := ⟨_, rfl⟩
  have U0 : aSs S (e : Int) y.toInt = if fl (S.1 e) 1 = false then (3, 0, S) else (0, nI (rw9 (S.1 e) 2 m), S) := by
    unfold aSs
    rw [if_neg (by omega), if_neg (by omega), hm]
    rfl
  rw [← hm] at hc1
  rw [U0] at hq
  have hm32 : m < 32 := by omega
  clear U0 z1 z2 hm
  subst hc1
  refine V_iconst (v := nI 0) rfl (by decide) ?_
  refine V_pf_th rfl rfl rfl (by repeat (first | exact hup_eq | assumption | refine Eq.trans (hup_ne (by first | assumption | exact Ne.symm (by assumption) | decide | omega)) ?_)) ?_
  refine V_aload_n rfl (by first | rfl | assumption) ?_
  refine V_getf rfl rfl rfl (by repeat (first | exact hup_eq | assumption | refine Eq.trans (hup_ne (by first | assumption | exact Ne.symm (by assumption) | decide | omega)) ?_)) (by first | rfl | assumption) ?_
  refine V_if_le rfl (fun _ => ?_) (fun z => absurd (by decide) z)
  refine V_aload_n rfl (by first | rfl | assumption) ?_
  refine V_aload_n rfl (by first | rfl | assumption) ?_
  refine V_getf rfl rfl rfl (by repeat (first | exact hup_eq | assumption | refine Eq.trans (hup_ne (by first | assumption | exact Ne.symm (by assumption) | decide | omega)) ?_)) (by first | rfl | assumption) ?_
  refine V_iload_n rfl (by first | rfl | assumption) ?_
  refine V_zaldZ rfl (by repeat (first | exact hup_eq | assumption | refine Eq.trans (hup_ne (by first | assumption | exact Ne.symm (by assumption) | decide | omega)) ?_)) rfl (by first | omega | decide) (by first | omega | decide) ?_
  refine V_if_eqB rfl (fun z => ?_) (fun z => ?_)
  · rw [if_pos z] at hq
    refine V_iconst (v := nI 3) rfl (by decide) ?_
    refine V_pf_th rfl rfl rfl (by repeat (first | exact hup_eq | assumption | refine Eq.trans (hup_ne (by first | assumption | exact Ne.symm (by assumption) | decide | omega)) ?_)) ?_
    refine V_aload_n rfl (by first | rfl | assumption) ?_
    refine V_getf rfl rfl rfl (by repeat (first | exact hup_eq | assumption | refine Eq.trans (hup_ne (by first | assumption | exact Ne.symm (by assumption) | decide | omega)) ?_)) (by first | rfl | assumption) ?_
    refine V_if_le rfl (fun z => absurd z (by decide)) (fun _ => ?_)
    rw [hup_hup]
    refine V_iconst (v := 0) rfl (by decide) ?_
    refine V_goto rfl ?_
    exact V_iret rfl rfl (hq _ (FP.rf.hup (by decide)) h.ob)
  · rw [if_neg (by rw [z]; decide)] at hq
    refine V_iconst (v := nI 0) rfl (by decide) ?_
    refine V_goto rfl ?_
    refine V_pf_th rfl rfl rfl (by repeat (first | exact hup_eq | assumption | refine Eq.trans (hup_ne (by first | assumption | exact Ne.symm (by assumption) | decide | omega)) ?_)) ?_
    refine V_aload_n rfl (by first | rfl | assumption) ?_
    refine V_getf rfl rfl rfl (by repeat (first | exact hup_eq | assumption | refine Eq.trans (hup_ne (by first | assumption | exact Ne.symm (by assumption) | decide | omega)) ?_)) (by first | rfl | assumption) ?_
    refine V_if_le rfl (fun _ => ?_) (fun z => absurd (by decide) z)
    rw [hup_hup]
    refine V_aload_n rfl (by first | rfl | assumption) ?_
    refine V_getf rfl rfl rfl (by repeat (first | exact hup_eq | assumption | refine Eq.trans (hup_ne (by first | assumption | exact Ne.symm (by assumption) | decide | omega)) ?_)) (by first | rfl | assumption) ?_
    refine V_iconst (v := nI 4) rfl (by decide) ?_
    refine V_iload_n rfl (by first | rfl | assumption) ?_
    refine V_iaddN rfl ?_
    refine V_callS (M' := mX12_row) (mc := 0) (ms := 0) (bc' := 0) (bs' := 0) rfl cw_X12_267 is_X12_row rfl (Nat.le_of_ble_eq_true rfl) ⟨Nat.le_of_ble_eq_true rfl, Nat.le_of_ble_eq_true rfl⟩ ⟨Nat.le_of_ble_eq_true rfl, Nat.le_of_ble_eq_true rfl⟩ (As := [.int (nI (4 + e))]) (c_mrow (Q := fun o G2 => o = .inl (some (.int (nI (32 * (4 + e))))) ∧ G2 = hup G 140 (MO (nI 0) (nI (tpe S).length) (nI (lou S).length) hs ps rs)) ⟨rfl, rfl⟩) (fun o G2 h => ?_) (fun E G' h => by cases h.1)
    obtain ⟨h9, rfl⟩ := h
    cases h9
    have hb := hRP.1 (32 * (4 + e) + m)
    refine V_iload_n rfl (by first | rfl | assumption) ?_
    refine V_iaddN rfl ?_
    refine V_baldB rfl (by repeat (first | exact hup_eq | assumption | refine Eq.trans (hup_ne (by first | assumption | exact Ne.symm (by assumption) | decide | omega)) ?_)) rfl (by first | omega | decide) (by first | omega | decide) ?_
    refine V_sipush (v := nI 255) rfl (by decide) ?_
    refine V_bandB rfl (by first | assumption | solve_by_elim | exact Nat.mod_lt _ (by decide) | omega) ?_
    rw [((hRP.2 m hm32).1 e he).2.2]
    exact V_iret rfl rfl (hq _ (FP.rf.hup (by decide)) h.ob)
end MApi5
