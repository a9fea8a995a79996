/-! the reference's calls: the wire -/
section MApi4
variable {K : kK} {G : kG} {Q : kO → kG → Prop} {T : TB} {S : SG} {th ta os hs ps rs : Int32}
theorem emt_2 {e : Nat} {p : List Nat} (he : e < 2) : (emt T S e p).2 = S.2 := (emt_rw (j := 0) he).2
theorem gvu_2 {e : Nat} (he : e < 2) : (gvu T S e).2 = S.2 := emt_2 he
theorem bgn_2 {e : Nat} (he : e < 2) : (bgn T S e).2 = S.2 := (emt_2 (S := wIn S e) he).trans rfl
theorem act_2 {e q : Nat} {c : List Nat} (he : e < 2) : (act T S e c q).2 = S.2 := by
  unfold act
  split
  · rfl
  · split
    · rfl
    · split
      · rfl
      · split
        · unfold onI
          have h2 : ∀ S1 : SG, (if fl (S1.1 e) 2 = true then S1 else bgn T S1 e).2 = S1.2 := fun S1 => by
            split
            · rfl
            · exact bgn_2 he
          split
          · refine (emt_2 (by decide)).trans ?_
            show (if fl ((sE S e (sfl (srw (S.1 e) 5 (gD c)) 3 true)).1 e) 2 = true then sE S e (sfl (srw (S.1 e) 5 (gD c)) 3 true) else bgn T (sE S e (sfl (srw (S.1 e) 5 (gD c)) 3 true)) e).2 = S.2
            exact h2 _
          · exact h2 _
        · split
          · rfl
          · split
            · rw [onR_0]
              unfold onR0
              show (emt T (emt T (tks (sE S 1 (sfl (S.1 1) 4 true)) 1) 1 _) 1 [21]).2 = _
              rw [emt_2 (by decide), emt_2 (by decide)]
              rfl
            · split
              · unfold aRp
                show (if _ then _ else _ : SG).2 = _
                split
                · show (emt T (sE S 0 (sfl (S.1 0) 8 true)) 0 [21]).2 = _
                  rw [emt_2 (by decide)]
                  rfl
                · rw [gvu_2 (by decide)]
                  rfl
              · split
                · rfl
                · exact emt_2 he
theorem dlv_2 {e : Nat} (he : e < 2) : (dlv T S e).2.2 = S.2 := by
  unfold dlv
  split
  · rfl
  · split
    · rfl
    · generalize opn T (fl (S.1 e) 7) (rw9 (S.1 e) 8) (rw9 (S.1 e) 9) (nm (S.1 e) 1) ((wi (S.1 e)).getD 0 []) = op
      cases op with
      | none => exact gvu_2 (S := sE S e (snm (swi (S.1 e) ((wi (S.1 e)).drop 1)) 1 (nm (S.1 e) 1 + 1))) he
      | some p =>
        rw [dl2_some]
        split
        · exact (act_2 (S := sE S e (snm (swi (S.1 e) ((wi (S.1 e)).drop 1)) 1 (nm (S.1 e) 1 + 1))) he).trans rfl
        · exact gvu_2 (S := sE S e (snm (swi (S.1 e) ((wi (S.1 e)).drop 1)) 1 (nm (S.1 e) 1 + 1))) he
/-- tape and result stay -/
theorem RMA.keep {S' : SG} {G' : kG} {th' hs' ps' rs' : Int32} (h : RMA T S th G) (hR : RM T S' G') (F : G'.1 141 = G.1 141 ∧ G'.1 142 = G.1 142) (e2 : S'.2 = S.2) (h140 : G'.1 140 = some (MO th' (nI (tpe S).length) (nI (lou S).length) hs' ps' rs')) : RMA T S' th' G' := by
  obtain ⟨_, ht, ho, _⟩ := h
  have e3 : tpe S' = tpe S := congrArg (fun x => x.2.2) e2
  have e4 : lou S' = lou S := congrArg (fun x => x.2.1) e2
  refine ⟨hR, ?_, ?_, hs', ps', rs', ?_⟩
  · rw [e3]; exact ht.fp F.1
  · rw [e4]; exact ho.fp F.2
  · rw [e3, e4]; exact h140
theorem e_of {x : Int32} (h1 : ¬ x.toInt < 0) (h2 : x.toInt ≤ 1) : ∃ e : Nat, e < 2 ∧ x = nI e ∧ x.toInt = (e : Int) := by
  obtain ⟨hc1, hc2⟩ := i32_n (x := x) (by omega)
  exact ⟨x.toInt.toNat, by omega, hc1, by omega⟩
abbrev PX (j : Nat) : Prop := 140 ≤ j ∧ j ≤ 183 ∧ j ≠ 141 ∧ j ≠ 142
theorem FP.xm {G' : kG} (h : FP PX G G') : FP PM G G' := h.sub (fun x hx => by show _ ∧ _; omega)
theorem c_Mcome {x : Int32} {B : Nat} (hqt : qtO T.2.2) (h : RMA T S th G) (hB : bnd S B) (hB2 : B < 2 ^ 29) (hI : ivE S) (hq : ∀ G', FP PM G G' → RMA T (aCm T S x.toInt).2.2 (nI (aCm T S x.toInt).1) G' → Q (.inl (some (.int (aCm T S x.toInt).2.1))) G') : C K 0 0 mX12_come [.ref 140, .int x] G Q := by
  obtain ⟨hR, ht, ho, hs, ps, rs, g140⟩ := id h
  refine C_of okX12_come (Nat.le_of_ble_eq_true rfl) ?_
  have bad : ¬ (x.toInt = 0 ∨ x.toInt = 1) → V K 0 0 mX12_come 10 (kla [.ref 140, .int x]) [.ref 140] G Q := by
    intro z
    have U : aCm T S x.toInt = (1, 0, S) := by unfold aCm; rw [if_pos z]
    rw [U] at hq
    refine V_iconst (v := nI 1) rfl (by decide) ?_
    refine V_goto rfl ?_
    refine V_pf_th rfl rfl rfl (by repeat (first | exact hup_eq | assumption | refine Eq.trans (hup_ne (by first | assumption | exact Ne.symm (by assumption) | decide | omega)) ?_)) ?_
    refine V_aload_n rfl (by first | rfl | assumption) ?_
    refine V_getf rfl rfl rfl (by repeat (first | exact hup_eq | assumption | refine Eq.trans (hup_ne (by first | assumption | exact Ne.symm (by assumption) | decide | omega)) ?_)) (by first | rfl | assumption) ?_
    refine V_if_le rfl (fun z => absurd z (by decide)) (fun _ => ?_)
    refine V_iconst (v := 0) rfl (by decide) ?_
    refine V_goto rfl ?_
    exact V_iret rfl rfl (hq _ (FP.rf.hup (by decide)) ⟨hR.ob, ht.fp (hup_ne (by decide)), ho.fp (hup_ne (by decide)), hs, ps, rs, hup_eq⟩)
  refine V_aload_n rfl (by rfl) ?_
  refine V_iload_n rfl (by rfl) ?_
  refine V_if_ltZ rfl rfl (fun z => bad (by omega)) (fun z1 => ?_)
  refine V_iload_n rfl (by rfl) ?_
  refine V_iconst (v := 1) rfl (by decide) ?_
  refine V_icmp_leZ (b := 1) rfl rfl (by decide) (fun z2 => ?_) (fun z => bad (by omega))
  clear bad
  obtain ⟨e, he, hxe, hxi⟩ := e_of z1 z2
  have U : aCm T S x.toInt = (0, (dlv T S e).1, (dlv T S e).2) := by unfold aCm; rw [if_neg (by omega), hxi]; rfl
  rw [U] at hq
  clear z1 z2 U hxi
  subst hxe
  refine V_iconst (v := nI 0) rfl (by decide) ?_
  refine V_pf_th rfl rfl rfl (by repeat (first | exact hup_eq | assumption | refine Eq.trans (hup_ne (by first | assumption | exact Ne.symm (by assumption) | decide | omega)) ?_)) ?_
  refine V_aload_n rfl (by first | rfl | assumption) ?_
  refine V_getf rfl rfl rfl (by repeat (first | exact hup_eq | assumption | refine Eq.trans (hup_ne (by first | assumption | exact Ne.symm (by assumption) | decide | omega)) ?_)) (by first | rfl | assumption) ?_
  refine V_if_le rfl (fun _ => ?_) (fun z => absurd (by decide) z)
  refine V_aload_n rfl (by first | rfl | assumption) ?_
  refine V_iload_n rfl (by first | rfl | assumption) ?_
  refine V_callV (M' := mX12_comes) (mc := 0) (ms := 0) (bc' := 0) (bs' := 0) rfl cw_X12_374 iv_X12_comes (by repeat (first | exact hup_eq | assumption | refine Eq.trans (hup_ne (by first | assumption | exact Ne.symm (by assumption) | decide | omega)) ?_)) rfl rfl (Nat.le_of_ble_eq_true rfl) ⟨Nat.le_of_ble_eq_true rfl, Nat.le_of_ble_eq_true rfl⟩ ⟨Nat.le_of_ble_eq_true rfl, Nat.le_of_ble_eq_true rfl⟩ (As := [.int (nI e)]) (c_mcomes (S := S) (Q := fun o G1 => o = .inl (some (.int (dlv T S e).1)) ∧ ∃ hs' ps' rs', FP PX (hup G 140 (MO (nI 0) (nI (tpe S).length) (nI (lou S).length) hs ps rs)) G1 ∧ G1.1 140 = some (MO (nI 0) (nI (tpe S).length) (nI (lou S).length) hs' ps' rs') ∧ RM T (dlv T S e).2 G1) he hqt hup_eq hR.ob hB hB2 hI (fun G1 hs' ps' rs' h1 h2 h3 => ⟨rfl, hs', ps', rs', h1, h2, h3⟩)) (fun o G1 h => ?_) (fun E G' h => by cases h.1)
  obtain ⟨h9, hs', ps', rs', F1, k140, hR1⟩ := h
  cases h9
  have F2 : FP PX G G1 := (FP.rf.hup (by decide)).trans F1 (fun _ q => q)
  exact V_iret rfl rfl (hq _ F2.xm (RMA.keep ⟨hR, ht, ho, hs, ps, rs, g140⟩ hR1 ⟨F2.2 _ (by decide), F2.2 _ (by decide)⟩ (dlv_2 he) k140))
theorem c_Mbegin {x : Int32} {B : Nat} (hqt : qtO T.2.2) (h : RMA T S th G) (hB : bnd S B) (hB2 : B < 2 ^ 29) (hq : ∀ G', FP PM G G' → RMA T (aBg T S x.toInt).2.2 (nI (aBg T S x.toInt).1) G' → Q (.inl none) G') : C K 0 0 mX12_begin [.ref 140, .int x] G Q := by
  obtain ⟨hR, ht, ho, hs, ps, rs, g140⟩ := id h
  refine C_of okX12_begin (Nat.le_of_ble_eq_true rfl) ?_
  have bad : ¬ (x.toInt = 0 ∨ x.toInt = 1) → V K 0 0 mX12_begin 10 (kla [.ref 140, .int x]) [.ref 140] G Q := by
    intro z
    have U : aBg T S x.toInt = (1, 0, S) := by unfold aBg; rw [if_pos z]
    rw [U] at hq
    refine V_iconst (v := nI 1) rfl (by decide) ?_
    refine V_goto rfl ?_
    refine V_pf_th rfl rfl rfl (by repeat (first | exact hup_eq | assumption | refine Eq.trans (hup_ne (by first | assumption | exact Ne.symm (by assumption) | decide | omega)) ?_)) ?_
    refine V_aload_n rfl (by first | rfl | assumption) ?_
    refine V_getf rfl rfl rfl (by repeat (first | exact hup_eq | assumption | refine Eq.trans (hup_ne (by first | assumption | exact Ne.symm (by assumption) | decide | omega)) ?_)) (by first | rfl | assumption) ?_
    refine V_if_le rfl (fun z => absurd z (by decide)) (fun _ => ?_)
    exact V_vret rfl rfl (hq _ (FP.rf.hup (by decide)) ⟨hR.ob, ht.fp (hup_ne (by decide)), ho.fp (hup_ne (by decide)), hs, ps, rs, hup_eq⟩)
  refine V_aload_n rfl (by rfl) ?_
  refine V_iload_n rfl (by rfl) ?_
  refine V_if_ltZ rfl rfl (fun z => bad (by omega)) (fun z1 => ?_)
  refine V_iload_n rfl (by rfl) ?_
  refine V_iconst (v := 1) rfl (by decide) ?_
  refine V_icmp_leZ (b := 1) rfl rfl (by decide) (fun z2 => ?_) (fun z => bad (by omega))
  clear bad
  obtain ⟨e, he, hxe, hxi⟩ := e_of z1 z2
  rw [hxi] at hq
  clear z1 z2 hxi
  subst hxe
  have f0 := hR.2.2.2.2.2.2.2.2.1.1
  have f2 := hR.2.2.2.2.2.2.2.2.1.2.2.1
  refine V_iconst (v := nI 0) rfl (by decide) ?_
  refine V_pf_th rfl rfl rfl (by repeat (first | exact hup_eq | assumption | refine Eq.trans (hup_ne (by first | assumption | exact Ne.symm (by assumption) | decide | omega)) ?_)) ?_
  refine V_aload_n rfl (by first | rfl | assumption) ?_
  refine V_getf rfl rfl rfl (by repeat (first | exact hup_eq | assumption | refine Eq.trans (hup_ne (by first | assumption | exact Ne.symm (by assumption) | decide | omega)) ?_)) (by first | rfl | assumption) ?_
  refine V_if_le rfl (fun _ => ?_) (fun z => absurd (by decide) z)
  have bad : fl (S.1 e) 0 = false ∨ fl (S.1 e) 2 = true → V K 0 0 mX12_begin 45 (kla [.ref 140, .int (nI e)]) [.ref 140] (hup G 140 (MO (nI 0) (nI (tpe S).length) (nI (lou S).length) hs ps rs)) Q := by
    intro z
    have U : aBg T S (e : Int) = (2, 0, S) := by unfold aBg; rw [if_neg (by omega)]; exact if_pos z
    rw [U] at hq
    refine V_iconst (v := nI 2) rfl (by decide) ?_
    refine V_goto rfl ?_
    refine V_pf_th rfl rfl rfl (by repeat (first | exact hup_eq | assumption | refine Eq.trans (hup_ne (by first | assumption | exact Ne.symm (by assumption) | decide | omega)) ?_)) ?_
    refine V_aload_n rfl (by first | rfl | assumption) ?_
    refine V_getf rfl rfl rfl (by repeat (first | exact hup_eq | assumption | refine Eq.trans (hup_ne (by first | assumption | exact Ne.symm (by assumption) | decide | omega)) ?_)) (by first | rfl | assumption) ?_
    refine V_if_ne rfl (fun _ => ?_) (fun z => absurd z (by decide))
    rw [hup_hup]
    exact V_vret rfl rfl (hq _ (FP.rf.hup (by decide)) ⟨hR.ob, ht.fp (hup_ne (by decide)), ho.fp (hup_ne (by decide)), hs, ps, rs, hup_eq⟩)
  refine V_aload_n rfl (by first | rfl | assumption) ?_
  refine V_aload_n rfl (by first | rfl | assumption) ?_
  refine V_getf rfl rfl rfl (by repeat (first | exact hup_eq | assumption | refine Eq.trans (hup_ne (by first | assumption | exact Ne.symm (by assumption) | decide | omega)) ?_)) (by first | rfl | assumption) ?_
  refine V_iload_n rfl (by first | rfl | assumption) ?_
  refine V_zaldZ rfl (by repeat (first | exact hup_eq | assumption | refine Eq.trans (hup_ne (by first | assumption | exact Ne.symm (by assumption) | decide | omega)) ?_)) rfl (by first | omega | decide) (by first | omega | decide) ?_
  refine V_if_neB rfl (fun z => bad (Or.inl (by cases h : fl (S.1 e) 0; rfl; rw [h] at z; cases z))) (fun z0 => ?_)
  refine V_aload_n rfl (by first | rfl | assumption) ?_
  refine V_getf rfl rfl rfl (by repeat (first | exact hup_eq | assumption | refine Eq.trans (hup_ne (by first | assumption | exact Ne.symm (by assumption) | decide | omega)) ?_)) (by first | rfl | assumption) ?_
  refine V_iload_n rfl (by first | rfl | assumption) ?_
  refine V_zaldZ rfl (by repeat (first | exact hup_eq | assumption | refine Eq.trans (hup_ne (by first | assumption | exact Ne.symm (by assumption) | decide | omega)) ?_)) rfl (by first | omega | decide) (by first | omega | decide) ?_
  refine V_if_eqB rfl (fun z2 => ?_) (fun z => bad (Or.inr z))
  clear bad
  have hf : fl (S.1 e) 0 = true := by cases h : fl (S.1 e) 0; rw [h] at z0; cases z0; rfl
  have U : aBg T S (e : Int) = (0, 0, bgn T S e) := by
    unfold aBg
    rw [if_neg (by omega), if_neg (fun q => ?_)]
    · rfl
    · have q : fl (S.1 e) 0 = false ∨ fl (S.1 e) 2 = true := q
      rw [hf, z2] at q
      rcases q with q | q <;> cases q
  rw [U] at hq
  refine V_iconst (v := nI 0) rfl (by decide) ?_
  refine V_pf_th rfl rfl rfl (by repeat (first | exact hup_eq | assumption | refine Eq.trans (hup_ne (by first | assumption | exact Ne.symm (by assumption) | decide | omega)) ?_)) ?_
  refine V_aload_n rfl (by first | rfl | assumption) ?_
  refine V_getf rfl rfl rfl (by repeat (first | exact hup_eq | assumption | refine Eq.trans (hup_ne (by first | assumption | exact Ne.symm (by assumption) | decide | omega)) ?_)) (by first | rfl | assumption) ?_
  refine V_if_ne rfl (fun z => absurd rfl z) (fun _ => ?_)
  rw [hup_hup]
  refine V_aload_n rfl (by first | rfl | assumption) ?_
  refine V_iload_n rfl (by first | rfl | assumption) ?_
  have hb0 := hB e he 0 (by decide)
  refine V_callV (M' := mX12_postInit) (mc := 0) (ms := 0) (bc' := 0) (bs' := 0) rfl cw_X12_354 iv_X12_postInit (by repeat (first | exact hup_eq | assumption | refine Eq.trans (hup_ne (by first | assumption | exact Ne.symm (by assumption) | decide | omega)) ?_)) rfl rfl (Nat.le_of_ble_eq_true rfl) ⟨Nat.le_of_ble_eq_true rfl, Nat.le_of_ble_eq_true rfl⟩ ⟨Nat.le_of_ble_eq_true rfl, Nat.le_of_ble_eq_true rfl⟩ (As := [.int (nI e)]) (c_minit (Q := fun o G2 => o = .inl none ∧ ∃ ps', FP (fun j => PO j ∨ j = 159 ∨ j = 167) (hup G 140 (MO (nI 0) (nI (tpe S).length) (nI (lou S).length) hs ps rs)) G2 ∧ G2.1 140 = some (MO (nI 0) (nI (tpe S).length) (nI (lou S).length) hs ps' rs) ∧ RM T (bgn T S e) G2) he hqt hup_eq hR.ob (by omega) (fun G2 ps' h1 h2 h3 => ⟨rfl, ps', h1, h2, h3⟩)) (fun o G2 h => ?_) (fun E G' h => by cases h.1)
  obtain ⟨h9, ps', F1, k140, hR1⟩ := h
  cases h9
  have F2 : FP PX G G2 := (FP.rf.hup (by decide)).trans F1 (fun x hx => by show _ ∧ _; omega)
  exact V_vret rfl rfl (hq _ F2.xm (RMA.keep ⟨hR, ht, ho, hs, ps, rs, g140⟩ hR1 ⟨F2.2 _ (by decide), F2.2 _ (by decide)⟩ (bgn_2 he) k140))
end MApi4
