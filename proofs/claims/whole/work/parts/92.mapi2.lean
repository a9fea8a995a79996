section MApi2
variable {K : kK} {G : kG} {Q : kO → kG → Prop} {T : TB} {S : SG} {th ta os hs ps rs : Int32}
theorem RM.sr {G' : kG} (h : RM T S G) (hs : scM T G') (hr : rRow S G') (e : ∀ j, 158 ≤ j → j ≤ 178 → G'.1 j = G.1 j) : RM T S G' := by
  obtain ⟨_, a, b, c, d, f, g, i, k, m⟩ := h
  exact ⟨hs, hr, b.fp (e _ (by decide) (by decide)), c.fp (e _ (by decide) (by decide)), d.fp (e _ (by decide) (by decide)), f.fp (e _ (by decide) (by decide)), g.fp (fun j p q => e j (by omega) (by omega)), i.fp (fun j p q => e j (by omega) (by omega)), k.fp (fun j p q => e j (by omega) (by omega)), m.fp (fun j p q => e j (by omega) (by omega))⟩
theorem scM.cr {G' : kG} {D : Nat → Nat} (h : scM T G) (hD : crM D G') (e : ∀ j, (145 ≤ j ∧ j ≤ 156) ∨ (179 ≤ j ∧ j ≤ 181) → G'.1 j = G.1 j) : scM T G' := by
  obtain ⟨_, b, c, d, f, g, i, k⟩ := h
  exact ⟨⟨D, hD⟩, b.fp (fun j _ _ => e j (by omega)), c.fp (e _ (by omega)), d.fp (fun j _ _ => e j (by omega)), f.fp (fun j _ _ => e j (by omega)), g.fp (e _ (by omega)), i.fp (e _ (by omega)), k.fp (e _ (by omega))⟩
theorem scM.ha {G' : kG} (h : scM T G) (h1 : hM T G') (h2 : mhl [] G') (e : ∀ j, 143 ≤ j ∧ j ≤ 144 ∨ j = 150 ∨ j = 152 ∨ (153 ≤ j ∧ j ≤ 156) ∨ (179 ≤ j ∧ j ≤ 181) → G'.1 j = G.1 j) : scM T G' := by
  obtain ⟨⟨D, a⟩, b, c, ⟨⟨d1, d2⟩, ⟨d3, d4⟩, d5, d6, d7⟩, f, g, i, k⟩ := h
  exact ⟨⟨D, a.fp (fun j _ _ => e j (by omega))⟩, h1, h2, ⟨⟨d1, (e _ (by omega)).trans d2⟩, h1.2.2.2.2, d5, (e _ (by omega)).trans d6, d7⟩, f.fp (fun j _ _ => e j (by omega)), g.fp (e _ (by omega)), i.fp (e _ (by omega)), k.fp (e _ (by omega))⟩
theorem scM.sm {G' : kG} (h : scM T G) (h1 : sM G') (e : ∀ j, (143 ≤ j ∧ j ≤ 149) ∨ (153 ≤ j ∧ j ≤ 156) ∨ (179 ≤ j ∧ j ≤ 181) → G'.1 j = G.1 j) : scM T G' := by
  obtain ⟨⟨D, a⟩, ⟨⟨b1, b2, b3⟩, ⟨b4, b5, b6⟩, ⟨b7, b8⟩, ⟨b9, b10⟩, b11, b12⟩, c, d, f, g, i, k⟩ := h
  exact ⟨⟨D, a.fp (fun j _ _ => e j (by omega))⟩, ⟨⟨b1, (e _ (by omega)).trans b2, b3⟩, ⟨b4, (e _ (by omega)).trans b5, b6⟩, ⟨b7, (e _ (by omega)).trans b8⟩, ⟨b9, (e _ (by omega)).trans b10⟩, h1.2.1⟩, c.fp (e _ (by omega)), h1, f.fp (fun j _ _ => e j (by omega)), g.fp (e _ (by omega)), i.fp (e _ (by omega)), k.fp (e _ (by omega))⟩
theorem scM.tm {G' : kG} (h : scM T G) (h1 : tM G') (e : ∀ j, (143 ≤ j ∧ j ≤ 152) ∨ (179 ≤ j ∧ j ≤ 181) → G'.1 j = G.1 j) : scM T G' := by
  obtain ⟨⟨D, a⟩, b, c, d, f, g, i, k⟩ := h
  exact ⟨⟨D, a.fp (fun j _ _ => e j (by omega))⟩, b.fp (fun j _ _ => e j (by omega)), c.fp (e _ (by omega)), d.fp (fun j _ _ => e j (by omega)), h1, g.fp (e _ (by omega)), i.fp (e _ (by omega)), k.fp (e _ (by omega))⟩
theorem hM.fq {G' : kG} (h : hM T G) (e : ∀ j, j = 145 ∨ j = 146 ∨ j = 147 ∨ j = 148 ∨ j = 151 → G'.1 j = G.1 j) : hM T G' := by
  obtain ⟨⟨a1, a2, a3⟩, ⟨b1, b2, b3⟩, ⟨c1, c2⟩, ⟨d1, d2⟩, e1, e2⟩ := h
  exact ⟨⟨a1, (e _ (by decide)).trans a2, a3⟩, ⟨b1, (e _ (by decide)).trans b2, b3⟩, ⟨c1, (e _ (by decide)).trans c2⟩, ⟨d1, (e _ (by decide)).trans d2⟩, e1, (e _ (by decide)).trans e2⟩
/-- a result is told -/
theorem RMA.told {g f : Nat → Nat} {n : Nat} {o : Nat → Nat} {hs' ps' rs' : Int32} {G1 G2 : kG} (hR : RM T S G1) (e : G2 = hup (hup G1 140 (MO th (nI 0) (nI n) hs' ps' rs')) 142 (YA 64 (ovw o 0 n f))) (ho : ∀ j, o j < 256) (hf : ∀ j, j < n → f j = g j) (hg : ∀ j, j < n → g j < 256) (hn : n ≤ 64) (ht : tpM 141 600 [] G1) : RMA T (sO (tkn S) (lst g n)) th G2 := by
  subst e
  refine ⟨RM.fp (S := S) hR (fun j a b => (hup_ne (by omega)).trans (hup_ne (by omega))), ht.fp ((hup_ne (by decide)).trans (hup_ne (by decide))), ?_, hs', ps', rs', ?_⟩
  · have := tpM.cpy (c := 142) (N := 64) (n := n) (f := f) (o := o) (G' := hup (hup G1 140 (MO th (nI 0) (nI n) hs' ps' rs')) 142 (YA 64 (ovw o 0 n f))) hup_eq ho (fun j hj => by rw [hf j hj]; exact hg j hj) hn
    rw [lst_congr hf] at this
    exact this
  · show _ = some (MO th (nI 0) (nI (lst g n).length) hs' ps' rs')
    rw [hup_ne (by decide), hup_eq, lst_len]
set_option maxHeartbeats 4000000 in
theorem c_Mmultiply (h : RMA T S th G) (hq : ∀ G', FP PM G G' → RMA T (aMu S).2.2 (nI (aMu S).1) G' → Q (.inl none) G') : C K 0 0 mX12_multiply [.ref 140] G Q := by
  obtain ⟨hR, ht, ho, hs, ps, rs, g140⟩ := h
  obtain ⟨b, g141, hb, hl, hl6⟩ := id ht
  obtain ⟨ob, g142, hob, hol, hol6⟩ := id ho
  refine C_of okX12_multiply (Nat.le_of_ble_eq_true rfl) ?_
  refine V_aload_n rfl (by rfl) ?_
  refine V_aload_n rfl (by rfl) ?_
  refine V_callV (M' := mX12_taken) (mc := 0) (ms := 0) (bc' := 0) (bs' := 0) rfl cw_X12_263 iv_X12_taken (by repeat (first | exact hup_eq | assumption | refine Eq.trans (hup_ne (by first | assumption | exact Ne.symm (by assumption) | decide | omega)) ?_)) rfl rfl (Nat.le_of_ble_eq_true rfl) ⟨Nat.le_of_ble_eq_true rfl, Nat.le_of_ble_eq_true rfl⟩ ⟨Nat.le_of_ble_eq_true rfl, Nat.le_of_ble_eq_true rfl⟩ (As := []) (c_mtaken (Q := fun o G1 => o = .inl (some (.int (nI (tpe S).length))) ∧ G1 = hup G 140 (MO th (nI 0) (nI (lou S).length) hs ps rs)) g140 ⟨rfl, rfl⟩) (fun o G1 h => ?_) (fun E G' h => by cases h.1)
  obtain ⟨h, rfl⟩ := h
  cases h
  refine V_bipush (v := nI 64) rfl (by decide) ?_
  refine V_icmp_neN rfl (by omega) (by decide) (fun z => ?_) (fun z => ?_)
  · have U : aMu S = (1, 0, tkn S) := by unfold aMu; rw [if_pos z]
    rw [U] at hq
    refine V_iconst (v := nI 1) rfl (by decide) ?_
    refine V_pf_th rfl rfl rfl (by repeat (first | exact hup_eq | assumption | refine Eq.trans (hup_ne (by first | assumption | exact Ne.symm (by assumption) | decide | omega)) ?_)) ?_
    refine V_aload_n rfl (by first | rfl | assumption) ?_
    refine V_getf rfl rfl rfl (by repeat (first | exact hup_eq | assumption | refine Eq.trans (hup_ne (by first | assumption | exact Ne.symm (by assumption) | decide | omega)) ?_)) (by first | rfl | assumption) ?_
    refine V_if_le rfl (fun z => absurd z (by decide)) (fun _ => ?_)
    rw [hup_hup]
    exact V_vret rfl rfl (hq _ (FP.rf.hup (by decide)) ⟨RM.ob (S := S) hR, ht.nl.fp (hup_ne (by decide)), ho.fp (hup_ne (by decide)), hs, ps, rs, hup_eq⟩)
  have U : aMu S = (0, 0, sO (tkn S) (lst (mulB (gD (tpe S)) (sft (gD (tpe S)) 32)) 32)) := by unfold aMu; rw [if_neg (by omega)]
  rw [U] at hq
  refine V_iconst (v := nI 0) rfl (by decide) ?_
  refine V_goto rfl ?_
  refine V_pf_th rfl rfl rfl (by repeat (first | exact hup_eq | assumption | refine Eq.trans (hup_ne (by first | assumption | exact Ne.symm (by assumption) | decide | omega)) ?_)) ?_
  refine V_aload_n rfl (by first | rfl | assumption) ?_
  refine V_getf rfl rfl rfl (by repeat (first | exact hup_eq | assumption | refine Eq.trans (hup_ne (by first | assumption | exact Ne.symm (by assumption) | decide | omega)) ?_)) (by first | rfl | assumption) ?_
  refine V_if_le rfl (fun _ => ?_) (fun z => absurd (by decide) z)
  rw [hup_hup]
  obtain ⟨R, g157, hRP⟩ := id hR.2.1
  obtain ⟨G1, hG1⟩ : ∃ G1, G1 = hup G 140 (MO (nI 0) (nI 0) (nI (lou S).length) hs ps rs) := ⟨_, rfl⟩
  rw [← hG1]
  have F1 : FP (fun j => j = 140) G G1 := by rw [hG1]; exact FP.rf.hup rfl
  have k140 : G1.1 140 = some (MO (nI 0) (nI 0) (nI (lou S).length) hs ps rs) := by rw [hG1, hup_eq]
  have k141 := F1.get (by decide) g141
  have k142 := F1.get (by decide) g142
  have k157 := F1.get (by decide) g157
  have hR1 : RM T S G1 := by rw [hG1]; exact hR.ob
  refine V_aload_n rfl (by first | rfl | assumption) ?_
  refine V_aload_n rfl (by first | rfl | assumption) ?_
  refine V_getf rfl rfl rfl (by repeat (first | exact hup_eq | assumption | refine Eq.trans (hup_ne (by first | assumption | exact Ne.symm (by assumption) | decide | omega)) ?_)) (by first | rfl | assumption) ?_
  refine V_iconst (v := nI 0) rfl (by decide) ?_
  refine V_aload_n rfl (by first | rfl | assumption) ?_
  refine V_getf rfl rfl rfl (by repeat (first | exact hup_eq | assumption | refine Eq.trans (hup_ne (by first | assumption | exact Ne.symm (by assumption) | decide | omega)) ?_)) (by first | rfl | assumption) ?_
  refine V_bipush (v := nI 32) rfl (by decide) ?_
  refine V_aload_n rfl (by first | rfl | assumption) ?_
  refine V_getf rfl rfl rfl (by repeat (first | exact hup_eq | assumption | refine Eq.trans (hup_ne (by first | assumption | exact Ne.symm (by assumption) | decide | omega)) ?_)) (by first | rfl | assumption) ?_
  refine V_bipush (v := nI 19) rfl (by decide) ?_
  refine V_callS (M' := mX12_row) (mc := 0) (ms := 0) (bc' := 0) (bs' := 0) rfl cw_X12_267 is_X12_row rfl (Nat.le_of_ble_eq_true rfl) ⟨Nat.le_of_ble_eq_true rfl, Nat.le_of_ble_eq_true rfl⟩ ⟨Nat.le_of_ble_eq_true rfl, Nat.le_of_ble_eq_true rfl⟩ (As := [.int (nI 19)]) (c_mrow (Q := fun o G2 => o = .inl (some (.int (nI (32 * 19)))) ∧ G2 = G1) ⟨rfl, rfl⟩) (fun o G2 h => ?_) (fun E G' h => by cases h.1)
  obtain ⟨h, rfl⟩ := h
  cases h
  refine V_callV (M' := mX12_pointTimes) (mc := 0) (ms := 0) (bc' := 0) (bs' := 0) rfl cw_X12_270 iv_X12_pointTimes (by repeat (first | exact hup_eq | assumption | refine Eq.trans (hup_ne (by first | assumption | exact Ne.symm (by assumption) | decide | omega)) ?_)) rfl rfl (Nat.le_of_ble_eq_true rfl) ⟨Nat.le_of_ble_eq_true rfl, Nat.le_of_ble_eq_true rfl⟩ ⟨Nat.le_of_ble_eq_true rfl, Nat.le_of_ble_eq_true rfl⟩ (As := [.ref 141, .int (nI 0), .ref 141, .int (nI 32), .ref 157, .int (nI (32 * 19))]) (c_mpoint (Q := fun o G3 => o = .inl none ∧ FP (fun j => j = 143 ∨ j = 144 ∨ j = 157) G2 G3 ∧ (∃ D, crM D G3) ∧ G3.1 157 = some (YA 640 (ovw R (32 * 19) 32 (mulB (sft b 0) (sft b 32))))) k140 hR1.1.1 k141 k141 k157 (by decide) (by decide) (by decide) (by decide) (by decide) (by decide) hb hb (fun G3 h1 h2 h3 => ⟨rfl, h1, h2, h3⟩)) (fun o G3 h => ?_) (fun E G' h => by cases h.1)
  obtain ⟨h, F3, ⟨D, hD⟩, j157⟩ := h
  cases h
  have j140 := F3.get (by decide) k140
  have j141 := F3.get (by decide) k141
  have j142 := F3.get (by decide) k142
  have hmb : ∀ j, mulB (sft b 0) (sft b 32) j < 256 := fun j => mulB_lt _ _ j
  have hRP3 : rowP S (ovw R (32 * 19) 32 (mulB (sft b 0) (sft b 32))) := rowP.sc hRP (by decide) (fun j _ => hmb j)
  have hR3 : RM T S G3 := hR1.sr (hR1.1.cr hD (fun j hj => F3.2 j (by omega))) ⟨_, j157, hRP3⟩ (fun j a b => F3.2 j (by omega))
  refine V_aload_n rfl (by first | rfl | assumption) ?_
  refine V_aload_n rfl (by first | rfl | assumption) ?_
  refine V_getf rfl rfl rfl (by repeat (first | exact hup_eq | assumption | refine Eq.trans (hup_ne (by first | assumption | exact Ne.symm (by assumption) | decide | omega)) ?_)) (by first | rfl | assumption) ?_
  refine V_bipush (v := nI 19) rfl (by decide) ?_
  refine V_callS (M' := mX12_row) (mc := 0) (ms := 0) (bc' := 0) (bs' := 0) rfl cw_X12_267 is_X12_row rfl (Nat.le_of_ble_eq_true rfl) ⟨Nat.le_of_ble_eq_true rfl, Nat.le_of_ble_eq_true rfl⟩ ⟨Nat.le_of_ble_eq_true rfl, Nat.le_of_ble_eq_true rfl⟩ (As := [.int (nI 19)]) (c_mrow (Q := fun o G4 => o = .inl (some (.int (nI (32 * 19)))) ∧ G4 = G3) ⟨rfl, rfl⟩) (fun o G4 h => ?_) (fun E G' h => by cases h.1)
  obtain ⟨h, rfl⟩ := h
  cases h
  refine V_bipush (v := nI 32) rfl (by decide) ?_
  refine V_callV (M' := mX12_tell) (mc := 0) (ms := 0) (bc' := 0) (bs' := 0) rfl cw_X12_274 iv_X12_tell (by repeat (first | exact hup_eq | assumption | refine Eq.trans (hup_ne (by first | assumption | exact Ne.symm (by assumption) | decide | omega)) ?_)) rfl rfl (Nat.le_of_ble_eq_true rfl) ⟨Nat.le_of_ble_eq_true rfl, Nat.le_of_ble_eq_true rfl⟩ ⟨Nat.le_of_ble_eq_true rfl, Nat.le_of_ble_eq_true rfl⟩ (As := [.ref 157, .int (nI (32 * 19)), .int (nI 32)]) (c_mtell (Q := fun o G5 => o = .inl none ∧ G5 = hup (hup G4 140 (MO (nI 0) (nI 0) (nI 32) hs ps rs)) 142 (YA 64 (ovw ob 0 32 (sft (ovw R (32 * 19) 32 (mulB (sft b 0) (sft b 32))) (32 * 19))))) j140 j142 j157 (by decide) hRP3.1 (by decide) (by decide) (by decide) ⟨rfl, rfl⟩) (fun o G5 h => ?_) (fun E G' h => by cases h.1)
  obtain ⟨h, h5⟩ := h
  cases h
  have em : mulB (sft b 0) (sft b 32) = mulB (gD (tpe S)) (sft (gD (tpe S)) 32) := mulB_congr (fun j hj => by rw [gD_of hl (by omega)]; unfold sft; rw [Nat.zero_add]) (fun j hj => by unfold sft; rw [gD_of hl (by omega)])
  refine V_vret rfl rfl (hq _ ?_ (RMA.told hR3 h5 hob (fun j hj => ?_) (fun j _ => mulB_lt _ _ j) (by decide) ⟨b, j141, hb, rfl, Nat.zero_le _⟩))
  · rw [h5]
    exact (((F1.sub (fun x hx => by rw [hx]; decide)).trans F3 (fun x hx => by rcases hx with q | q | q <;> rw [q] <;> decide)).hup (by decide)).hup (by decide)
  · unfold sft at em ⊢
    rw [ovw_in hj]
    exact congrFun em j
set_option maxHeartbeats 4000000 in
theorem c_Mhash (h : RMA T S th G) (hq : ∀ G', FP PM G G' → RMA T (aHa T S).2.2 (nI (aHa T S).1) G' → Q (.inl none) G') : C K 0 0 mX12_hash [.ref 140] G Q := by
  obtain ⟨hR, ht, ho, hs, ps, rs, g140⟩ := h
  obtain ⟨b, g141, hb, hl, hl6⟩ := id ht
  obtain ⟨ob, g142, hob, hol, hol6⟩ := id ho
  refine C_of okX12_hash (Nat.le_of_ble_eq_true rfl) ?_
  refine V_aload_n rfl (by first | rfl | assumption) ?_
  refine V_iconst (v := nI 0) rfl (by decide) ?_
  refine V_pf_th rfl rfl rfl (by repeat (first | exact hup_eq | assumption | refine Eq.trans (hup_ne (by first | assumption | exact Ne.symm (by assumption) | decide | omega)) ?_)) ?_
  refine V_aload_n rfl (by first | rfl | assumption) ?_
  refine V_callV (M' := mX12_taken) (mc := 0) (ms := 0) (bc' := 0) (bs' := 0) rfl cw_X12_263 iv_X12_taken (by repeat (first | exact hup_eq | assumption | refine Eq.trans (hup_ne (by first | assumption | exact Ne.symm (by assumption) | decide | omega)) ?_)) rfl rfl (Nat.le_of_ble_eq_true rfl) ⟨Nat.le_of_ble_eq_true rfl, Nat.le_of_ble_eq_true rfl⟩ ⟨Nat.le_of_ble_eq_true rfl, Nat.le_of_ble_eq_true rfl⟩ (As := []) (c_mtaken (Q := fun o G1 => o = .inl (some (.int (nI (tpe S).length))) ∧ G1 = hup (hup G 140 (MO (nI 0) (nI (tpe S).length) (nI (lou S).length) hs ps rs)) 140 (MO (nI 0) (nI 0) (nI (lou S).length) hs ps rs)) hup_eq ⟨rfl, rfl⟩) (fun o G1 h => ?_) (fun E G' h => by cases h.1)
  obtain ⟨h, rfl⟩ := h
  cases h
  rw [hup_hup]
  refine V_istore_n rfl (by decide) ?_
  refine V_aload_n rfl (by first | rfl | assumption) ?_
  refine V_callV (M' := mX12_hashBegin) (mc := 0) (ms := 0) (bc' := 0) (bs' := 0) rfl cw_X12_278 iv_X12_hashBegin (by repeat (first | exact hup_eq | assumption | refine Eq.trans (hup_ne (by first | assumption | exact Ne.symm (by assumption) | decide | omega)) ?_)) rfl rfl (Nat.le_of_ble_eq_true rfl) ⟨Nat.le_of_ble_eq_true rfl, Nat.le_of_ble_eq_true rfl⟩ ⟨Nat.le_of_ble_eq_true rfl, Nat.le_of_ble_eq_true rfl⟩ (As := []) (c_mhbegin (Q := fun o G1 => o = .inl none ∧ G1 = hup G 140 (MO (nI 0) (nI 0) (nI (lou S).length) (nI 0) ps rs)) hup_eq ⟨rfl, by rw [hup_hup]⟩) (fun o G1 h => ?_) (fun E G' h => by cases h.1)
  obtain ⟨h, hG1⟩ := h
  cases h
  have F1 : FP (fun j => j = 140) G G1 := by rw [hG1]; exact FP.rf.hup rfl
  have k140 : G1.1 140 = some (MO (nI 0) (nI 0) (nI (lou S).length) (nI 0) ps rs) := by rw [hG1, hup_eq]
  have hR1 : RM T S G1 := by rw [hG1]; exact hR.ob
  clear hG1
  have k141 := F1.get (by decide) g141
  have k142 := F1.get (by decide) g142
  refine V_aload_n rfl (by first | rfl | assumption) ?_
  refine V_aload_n rfl (by first | rfl | assumption) ?_
  refine V_getf rfl rfl rfl (by repeat (first | exact hup_eq | assumption | refine Eq.trans (hup_ne (by first | assumption | exact Ne.symm (by assumption) | decide | omega)) ?_)) (by first | rfl | assumption) ?_
  refine V_iconst (v := nI 0) rfl (by decide) ?_
  refine V_iload_n rfl (by first | rfl | assumption) ?_
  refine V_callV (M' := mX12_hashAdd) (mc := 0) (ms := 0) (bc' := 0) (bs' := 0) rfl cw_X12_281 iv_X12_hashAdd (by repeat (first | exact hup_eq | assumption | refine Eq.trans (hup_ne (by first | assumption | exact Ne.symm (by assumption) | decide | omega)) ?_)) rfl rfl (Nat.le_of_ble_eq_true rfl) ⟨Nat.le_of_ble_eq_true rfl, Nat.le_of_ble_eq_true rfl⟩ ⟨Nat.le_of_ble_eq_true rfl, Nat.le_of_ble_eq_true rfl⟩ (As := [.ref 141, .int (nI 0), .int (nI (tpe S).length)]) (c_mhadd (l := []) (Q := fun o G2 => o = .inl none ∧ FP (fun j => j = 140 ∨ j = 149) G1 G2 ∧ G2.1 140 = some (MO (nI 0) (nI 0) (nI (lou S).length) (nI (tpe S).length) ps rs) ∧ mhl (tpe S) G2) k140 hR1.1.2.2.1 k141 (by decide) (by omega) (by decide) hb (by show 0 + _ ≤ _; omega) (fun G2 h1 h2 h3 => ?_)) (fun o G2 h => ?_) (fun E G' h => by cases h.1)
  · have e : ([] : List Nat) ++ lst (sft b 0) (tpe S).length = tpe S := by
      rw [List.nil_append, show sft b 0 = b from funext (fun j => by unfold sft; rw [Nat.zero_add])]
      exact hl
    rw [e] at h2 h3
    exact ⟨rfl, h1, h2, h3⟩
  obtain ⟨h, F2, j140, hl2⟩ := h
  cases h
  obtain ⟨R, g157, hRP⟩ := id (hR1.2.1.fp (F2.2 157 (by decide)))
  have j141 := F2.get (by decide) k141
  have j142 := F2.get (by decide) k142
  refine V_aload_n rfl (by first | rfl | assumption) ?_
  refine V_aload_n rfl (by first | rfl | assumption) ?_
  refine V_getf rfl rfl rfl (by repeat (first | exact hup_eq | assumption | refine Eq.trans (hup_ne (by first | assumption | exact Ne.symm (by assumption) | decide | omega)) ?_)) (by first | rfl | assumption) ?_
  refine V_bipush (v := nI 19) rfl (by decide) ?_
  refine V_callS (M' := mX12_row) (mc := 0) (ms := 0) (bc' := 0) (bs' := 0) rfl cw_X12_267 is_X12_row rfl (Nat.le_of_ble_eq_true rfl) ⟨Nat.le_of_ble_eq_true rfl, Nat.le_of_ble_eq_true rfl⟩ ⟨Nat.le_of_ble_eq_true rfl, Nat.le_of_ble_eq_true rfl⟩ (As := [.int (nI 19)]) (c_mrow (Q := fun o G3 => o = .inl (some (.int (nI (32 * 19)))) ∧ G3 = G2) ⟨rfl, rfl⟩) (fun o G3 h => ?_) (fun E G' h => by cases h.1)
  obtain ⟨h, rfl⟩ := h
  cases h
  refine V_callV (M' := mX12_hashEnd) (mc := 0) (ms := 0) (bc' := 0) (bs' := 0) rfl cw_X12_284 iv_X12_hashEnd (by repeat (first | exact hup_eq | assumption | refine Eq.trans (hup_ne (by first | assumption | exact Ne.symm (by assumption) | decide | omega)) ?_)) rfl rfl (Nat.le_of_ble_eq_true rfl) ⟨Nat.le_of_ble_eq_true rfl, Nat.le_of_ble_eq_true rfl⟩ ⟨Nat.le_of_ble_eq_true rfl, Nat.le_of_ble_eq_true rfl⟩ (As := [.ref 157, .int (nI (32 * 19))]) (c_mhend (T := T) (Q := fun o G4 => o = .inl none ∧ FP (fun j => PH j ∨ j = 157) G3 G4 ∧ hM T G4 ∧ mhl [] G4 ∧ G4.1 157 = some (YA 640 (ovw R (32 * 19) 32 (hL T (tpe S))))) j140 (hR1.1.2.1.fq (fun j a => F2.2 j (by omega))) hl2 (by omega) g157 (Or.inl rfl) (by decide) (fun G4 h1 h2 h3 h4 => ⟨rfl, h1, h2, h3, h4⟩)) (fun o G4 h => ?_) (fun E G' h => by cases h.1)
  obtain ⟨h, F4, hm4, hl4, i157⟩ := h
  cases h
  have i140 := F4.get (by decide) j140
  have i141 := F4.get (by decide) j141
  have i142 := F4.get (by decide) j142
  have hRP4 : rowP S (ovw R (32 * 19) 32 (hL T (tpe S))) := rowP.sc hRP (by decide) (fun j _ => HSH_lt _ _ _ j)
  have F24 : FP (fun j => j = 140 ∨ PH j ∨ j = 157) G1 G4 := (F2.sub (fun x hx => by rcases hx with q | q <;> rw [q] <;> decide)).trans F4 (fun x hx => Or.inr hx)
  have hR4 : RM T S G4 := hR1.sr (hR1.1.ha hm4 hl4 (fun j hj => F24.2 j (by unfold PH; omega))) ⟨_, i157, hRP4⟩ (fun j a b => F24.2 j (by unfold PH; omega))
  refine V_aload_n rfl (by first | rfl | assumption) ?_
  refine V_aload_n rfl (by first | rfl | assumption) ?_
  refine V_getf rfl rfl rfl (by repeat (first | exact hup_eq | assumption | refine Eq.trans (hup_ne (by first | assumption | exact Ne.symm (by assumption) | decide | omega)) ?_)) (by first | rfl | assumption) ?_
  refine V_bipush (v := nI 19) rfl (by decide) ?_
  refine V_callS (M' := mX12_row) (mc := 0) (ms := 0) (bc' := 0) (bs' := 0) rfl cw_X12_267 is_X12_row rfl (Nat.le_of_ble_eq_true rfl) ⟨Nat.le_of_ble_eq_true rfl, Nat.le_of_ble_eq_true rfl⟩ ⟨Nat.le_of_ble_eq_true rfl, Nat.le_of_ble_eq_true rfl⟩ (As := [.int (nI 19)]) (c_mrow (Q := fun o G5 => o = .inl (some (.int (nI (32 * 19)))) ∧ G5 = G4) ⟨rfl, rfl⟩) (fun o G5 h => ?_) (fun E G' h => by cases h.1)
  obtain ⟨h, rfl⟩ := h
  cases h
  refine V_bipush (v := nI 32) rfl (by decide) ?_
  refine V_callV (M' := mX12_tell) (mc := 0) (ms := 0) (bc' := 0) (bs' := 0) rfl cw_X12_274 iv_X12_tell (by repeat (first | exact hup_eq | assumption | refine Eq.trans (hup_ne (by first | assumption | exact Ne.symm (by assumption) | decide | omega)) ?_)) rfl rfl (Nat.le_of_ble_eq_true rfl) ⟨Nat.le_of_ble_eq_true rfl, Nat.le_of_ble_eq_true rfl⟩ ⟨Nat.le_of_ble_eq_true rfl, Nat.le_of_ble_eq_true rfl⟩ (As := [.ref 157, .int (nI (32 * 19)), .int (nI 32)]) (c_mtell (Q := fun o G6 => o = .inl none ∧ G6 = hup (hup G5 140 (MO (nI 0) (nI 0) (nI 32) (nI (tpe S).length) ps rs)) 142 (YA 64 (ovw ob 0 32 (sft (ovw R (32 * 19) 32 (hL T (tpe S))) (32 * 19))))) i140 i142 i157 (by decide) hRP4.1 (by decide) (by decide) (by decide) ⟨rfl, rfl⟩) (fun o G6 h => ?_) (fun E G' h => by cases h.1)
  obtain ⟨h, h5⟩ := h
  cases h
  refine V_vret rfl rfl (hq _ ?_ (RMA.told (g := hL T (tpe S)) hR4 h5 hob (fun j hj => ?_) (fun j _ => HSH_lt _ _ _ j) (by decide) ⟨b, i141, hb, rfl, Nat.zero_le _⟩))
  · rw [h5]
    exact (((F1.sub (fun x hx => by rw [hx]; decide)).trans F24 (fun x hx => by unfold PH at hx; unfold PM; omega)).hup (by decide)).hup (by decide)
  · unfold sft
    rw [ovw_in hj]
set_option maxHeartbeats 4000000 in
theorem c_Mstream {w : Int64} {c : Int32} (hqt : qtO T.2.2) (h : RMA T S th G) (hq : ∀ G', FP PM G G' → RMA T (aSr T S w.toInt c.toInt).2.2 (nI (aSr T S w.toInt c.toInt).1) G' → Q (.inl none) G') : C K 0 0 mX12_stream [.ref 140, .long w, .int c] G Q := by
  obtain ⟨hR, ht, ho, hs, ps, rs, g140⟩ := h
  obtain ⟨b, g141, hb, hl, hl6⟩ := id ht
  obtain ⟨ob, g142, hob, hol, hol6⟩ := id ho
  refine C_of okX12_stream (Nat.le_of_ble_eq_true rfl) ?_
  refine V_aload_n rfl (by rfl) ?_
  refine V_aload_n rfl (by rfl) ?_
  refine V_callV (M' := mX12_taken) (mc := 0) (ms := 0) (bc' := 0) (bs' := 0) rfl cw_X12_263 iv_X12_taken (by repeat (first | exact hup_eq | assumption | refine Eq.trans (hup_ne (by first | assumption | exact Ne.symm (by assumption) | decide | omega)) ?_)) rfl rfl (Nat.le_of_ble_eq_true rfl) ⟨Nat.le_of_ble_eq_true rfl, Nat.le_of_ble_eq_true rfl⟩ ⟨Nat.le_of_ble_eq_true rfl, Nat.le_of_ble_eq_true rfl⟩ (As := []) (c_mtaken (Q := fun o G1 => o = .inl (some (.int (nI (tpe S).length))) ∧ G1 = hup G 140 (MO th (nI 0) (nI (lou S).length) hs ps rs)) g140 ⟨rfl, rfl⟩) (fun o G1 h => ?_) (fun E G' h => by cases h.1)
  obtain ⟨h, rfl⟩ := h
  cases h
  have bad : (tpe S).length ≠ 32 ∨ w.toInt < 0 ∨ c.toInt < 0 → V K 0 0 mX12_stream 20 (kla [.ref 140, .long w, .int c]) [.ref 140] (hup G 140 (MO th (nI 0) (nI (lou S).length) hs ps rs)) Q := by
    intro z
    have U : aSr T S w.toInt c.toInt = (1, 0, tkn S) := by unfold aSr; rw [if_pos z]
    rw [U] at hq
    refine V_iconst (v := nI 1) rfl (by decide) ?_
    refine V_goto rfl ?_
    refine V_pf_th rfl rfl rfl (by repeat (first | exact hup_eq | assumption | refine Eq.trans (hup_ne (by first | assumption | exact Ne.symm (by assumption) | decide | omega)) ?_)) ?_
    refine V_aload_n rfl (by first | rfl | assumption) ?_
    refine V_getf rfl rfl rfl (by repeat (first | exact hup_eq | assumption | refine Eq.trans (hup_ne (by first | assumption | exact Ne.symm (by assumption) | decide | omega)) ?_)) (by first | rfl | assumption) ?_
    refine V_if_le rfl (fun z => absurd z (by decide)) (fun _ => ?_)
    rw [hup_hup]
    exact V_vret rfl rfl (hq _ (FP.rf.hup (by decide)) ⟨RM.ob (S := S) hR, ht.nl.fp (hup_ne (by decide)), ho.fp (hup_ne (by decide)), hs, ps, rs, hup_eq⟩)
  refine V_bipush (v := nI 32) rfl (by decide) ?_
  refine V_icmp_neN rfl (by omega) (by decide) (fun z => bad (Or.inl z)) (fun z0 => ?_)
  refine V_lload_n rfl (by rfl) (by rfl) ?_
  refine V_lconst (v := 0) rfl (by decide) ?_
  refine V_lcmp rfl ?_
  refine V_if_ltL rfl (fun z => bad (Or.inr (Or.inl z))) (fun z1 => ?_)
  refine V_iload_n rfl (by rfl) ?_
  refine V_if_geZ rfl rfl (fun z2 => ?_) (fun z2 => bad (Or.inr (Or.inr (by omega))))
  clear bad
  have z1 : ¬ w.toInt < 0 := z1
  have U : aSr T S w.toInt c.toInt = (0, 0, sO (tkn S) (lst (STRM T.2.2 (gD (tpe S)) w.toInt.toNat c.toInt.toNat) 64)) := by unfold aSr; rw [if_neg (by omega)]
  rw [U] at hq
  obtain ⟨hc1, hc2⟩ := i32_n z2
  obtain ⟨hw1, hw2⟩ := i64_n (x := w) (by omega)
  obtain ⟨m, hm⟩ : ∃ m, m = c.toInt.toNat := ⟨_, rfl⟩
  obtain ⟨n, hn⟩ : ∃ n, n = w.toInt.toNat := ⟨_, rfl⟩
  rw [← hm] at hq hc1 hc2
  rw [← hn] at hq hw1 hw2
  clear U z1 z2 hm hn
  subst hc1 hw1
  refine V_iconst (v := nI 0) rfl (by decide) ?_
  refine V_pf_th rfl rfl rfl (by repeat (first | exact hup_eq | assumption | refine Eq.trans (hup_ne (by first | assumption | exact Ne.symm (by assumption) | decide | omega)) ?_)) ?_
  refine V_aload_n rfl (by first | rfl | assumption) ?_
  refine V_getf rfl rfl rfl (by repeat (first | exact hup_eq | assumption | refine Eq.trans (hup_ne (by first | assumption | exact Ne.symm (by assumption) | decide | omega)) ?_)) (by first | rfl | assumption) ?_
  refine V_if_le rfl (fun _ => ?_) (fun z => absurd (by decide) z)
  rw [hup_hup]
  obtain ⟨G1, hG1⟩ : ∃ G1, G1 = hup G 140 (MO (nI 0) (nI 0) (nI (lou S).length) hs ps rs) := ⟨_, rfl⟩
  rw [← hG1]
  have F1 : FP (fun j => j = 140) G G1 := by rw [hG1]; exact FP.rf.hup rfl
  have k140 : G1.1 140 = some (MO (nI 0) (nI 0) (nI (lou S).length) hs ps rs) := by rw [hG1, hup_eq]
  have k141 := F1.get (by decide) g141
  have k142 := F1.get (by decide) g142
  have hR1 : RM T S G1 := by rw [hG1]; exact hR.ob
  refine V_aload_n rfl (by first | rfl | assumption) ?_
  refine V_aload_n rfl (by first | rfl | assumption) ?_
  refine V_getf rfl rfl rfl (by repeat (first | exact hup_eq | assumption | refine Eq.trans (hup_ne (by first | assumption | exact Ne.symm (by assumption) | decide | omega)) ?_)) (by first | rfl | assumption) ?_
  refine V_iconst (v := nI 0) rfl (by decide) ?_
  refine V_lload_n rfl (by first | rfl | assumption) (by first | rfl | assumption) ?_
  refine V_iload_n rfl (by first | rfl | assumption) ?_
  refine V_callV (M' := mX12_makeStream) (mc := 0) (ms := 0) (bc' := 0) (bs' := 0) rfl cw_X12_237 iv_X12_makeStream (by repeat (first | exact hup_eq | assumption | refine Eq.trans (hup_ne (by first | assumption | exact Ne.symm (by assumption) | decide | omega)) ?_)) rfl rfl (Nat.le_of_ble_eq_true rfl) ⟨Nat.le_of_ble_eq_true rfl, Nat.le_of_ble_eq_true rfl⟩ ⟨Nat.le_of_ble_eq_true rfl, Nat.le_of_ble_eq_true rfl⟩ (As := [.ref 141, .int (nI 0), .long (lN n), .int (nI m)]) (c_mstream (Q := fun o G2 => o = .inl none ∧ ∃ t, FP PS G1 G2 ∧ sM G2 ∧ G2.1 152 = some (YA 64 t) ∧ (∀ j, t j < 256) ∧ ∀ j, j < 64 → t j = STRM T.2.2 (sft b 0) n m j) hqt k140 hR1.1.2.2.2.1 k141 (by decide) (by decide) hb hw2 (fun G2 t h1 h2 h3 h4 h5 => ⟨rfl, t, h1, h2, h3, h4, h5⟩)) (fun o G2 h => ?_) (fun E G' h => by cases h.1)
  obtain ⟨h, t, F2, sm2, j152, ht1, ht2⟩ := h
  cases h
  have j140 := F2.get (by decide) k140
  have j141 := F2.get (by decide) k141
  have j142 := F2.get (by decide) k142
  have hR2 : RM T S G2 := hR1.sc (hR1.1.sm sm2 (fun j hj => F2.2 j (by unfold PS; omega))) (fun j a b => F2.2 j (by unfold PS; omega))
  refine V_aload_n rfl (by first | rfl | assumption) ?_
  refine V_aload_n rfl (by first | rfl | assumption) ?_
  refine V_getf rfl rfl rfl (by repeat (first | exact hup_eq | assumption | refine Eq.trans (hup_ne (by first | assumption | exact Ne.symm (by assumption) | decide | omega)) ?_)) (by first | rfl | assumption) ?_
  refine V_iconst (v := nI 0) rfl (by decide) ?_
  refine V_bipush (v := nI 64) rfl (by decide) ?_
  refine V_callV (M' := mX12_tell) (mc := 0) (ms := 0) (bc' := 0) (bs' := 0) rfl cw_X12_274 iv_X12_tell (by repeat (first | exact hup_eq | assumption | refine Eq.trans (hup_ne (by first | assumption | exact Ne.symm (by assumption) | decide | omega)) ?_)) rfl rfl (Nat.le_of_ble_eq_true rfl) ⟨Nat.le_of_ble_eq_true rfl, Nat.le_of_ble_eq_true rfl⟩ ⟨Nat.le_of_ble_eq_true rfl, Nat.le_of_ble_eq_true rfl⟩ (As := [.ref 152, .int (nI 0), .int (nI 64)]) (c_mtell (Q := fun o G6 => o = .inl none ∧ G6 = hup (hup G2 140 (MO (nI 0) (nI 0) (nI 64) hs ps rs)) 142 (YA 64 (ovw ob 0 64 (sft t 0)))) j140 j142 j152 (by decide) ht1 (by decide) (by decide) (by decide) ⟨rfl, rfl⟩) (fun o G6 h => ?_) (fun E G' h => by cases h.1)
  obtain ⟨h, h5⟩ := h
  cases h
  refine V_vret rfl rfl (hq _ ?_ (RMA.told (g := STRM T.2.2 (gD (tpe S)) n m) hR2 h5 hob (fun j hj => ?_) (fun j _ => STRM_lt _ _ _ _ j) (by decide) ⟨b, j141, hb, rfl, Nat.zero_le _⟩))
  · rw [h5]
    exact (((F1.sub (fun x hx => by rw [hx]; decide)).trans F2 (fun x hx => by unfold PS at hx; unfold PM; omega)).hup (by decide)).hup (by decide)
  · show t (0 + j) = _
    rw [Nat.zero_add, ht2 j hj]
    exact STRM_congr (fun j hj => by rw [gD_of hl (by omega)]; unfold sft; rw [Nat.zero_add])
set_option maxHeartbeats 4000000 in
theorem c_Mtag (h : RMA T S th G) (hq : ∀ G', FP PM G G' → RMA T (aTg S).2.2 (nI (aTg S).1) G' → Q (.inl none) G') : C K 0 0 mX12_tag [.ref 140] G Q := by
  obtain ⟨hR, ht, ho, hs, ps, rs, g140⟩ := h
  obtain ⟨b, g141, hb, hl, hl6⟩ := id ht
  obtain ⟨ob, g142, hob, hol, hol6⟩ := id ho
  refine C_of okX12_tag (Nat.le_of_ble_eq_true rfl) ?_
  refine V_aload_n rfl (by rfl) ?_
  refine V_callV (M' := mX12_taken) (mc := 0) (ms := 0) (bc' := 0) (bs' := 0) rfl cw_X12_263 iv_X12_taken (by repeat (first | exact hup_eq | assumption | refine Eq.trans (hup_ne (by first | assumption | exact Ne.symm (by assumption) | decide | omega)) ?_)) rfl rfl (Nat.le_of_ble_eq_true rfl) ⟨Nat.le_of_ble_eq_true rfl, Nat.le_of_ble_eq_true rfl⟩ ⟨Nat.le_of_ble_eq_true rfl, Nat.le_of_ble_eq_true rfl⟩ (As := []) (c_mtaken (Q := fun o G1 => o = .inl (some (.int (nI (tpe S).length))) ∧ G1 = hup G 140 (MO th (nI 0) (nI (lou S).length) hs ps rs)) g140 ⟨rfl, rfl⟩) (fun o G1 h => ?_) (fun E G' h => by cases h.1)
  obtain ⟨h, rfl⟩ := h
  cases h
  refine V_istore_n rfl (by decide) ?_
  refine V_aload_n rfl (by first | rfl | assumption) ?_
  refine V_iload_n rfl (by first | rfl | assumption) ?_
  refine V_bipush (v := nI 32) rfl (by decide) ?_
  refine V_icmp_geN rfl (by omega) (by decide) (fun z => ?_) (fun z => ?_)
  rotate_left
  · have U : aTg S = (1, 0, tkn S) := by unfold aTg; rw [if_pos (by omega)]
    rw [U] at hq
    refine V_iconst (v := nI 1) rfl (by decide) ?_
    refine V_goto rfl ?_
    refine V_pf_th rfl rfl rfl (by repeat (first | exact hup_eq | assumption | refine Eq.trans (hup_ne (by first | assumption | exact Ne.symm (by assumption) | decide | omega)) ?_)) ?_
    refine V_aload_n rfl (by first | rfl | assumption) ?_
    refine V_getf rfl rfl rfl (by repeat (first | exact hup_eq | assumption | refine Eq.trans (hup_ne (by first | assumption | exact Ne.symm (by assumption) | decide | omega)) ?_)) (by first | rfl | assumption) ?_
    refine V_if_le rfl (fun z => absurd z (by decide)) (fun _ => ?_)
    rw [hup_hup]
    exact V_vret rfl rfl (hq _ (FP.rf.hup (by decide)) ⟨RM.ob (S := S) hR, ht.nl.fp (hup_ne (by decide)), ho.fp (hup_ne (by decide)), hs, ps, rs, hup_eq⟩)
  have U : aTg S = (0, 0, sO (tkn S) (lst (TAG (sft (gD (tpe S)) 32) ((tpe S).length - 32) (gD (tpe S))) 16)) := by unfold aTg; rw [if_neg (by omega)]
  rw [U] at hq
  refine V_iconst (v := nI 0) rfl (by decide) ?_
  refine V_pf_th rfl rfl rfl (by repeat (first | exact hup_eq | assumption | refine Eq.trans (hup_ne (by first | assumption | exact Ne.symm (by assumption) | decide | omega)) ?_)) ?_
  refine V_aload_n rfl (by first | rfl | assumption) ?_
  refine V_getf rfl rfl rfl (by repeat (first | exact hup_eq | assumption | refine Eq.trans (hup_ne (by first | assumption | exact Ne.symm (by assumption) | decide | omega)) ?_)) (by first | rfl | assumption) ?_
  refine V_if_le rfl (fun _ => ?_) (fun z => absurd (by decide) z)
  rw [hup_hup]
  obtain ⟨G1, hG1⟩ : ∃ G1, G1 = hup G 140 (MO (nI 0) (nI 0) (nI (lou S).length) hs ps rs) := ⟨_, rfl⟩
  rw [← hG1]
  have F1 : FP (fun j => j = 140) G G1 := by rw [hG1]; exact FP.rf.hup rfl
  have k140 : G1.1 140 = some (MO (nI 0) (nI 0) (nI (lou S).length) hs ps rs) := by rw [hG1, hup_eq]
  have k141 := F1.get (by decide) g141
  have k142 := F1.get (by decide) g142
  have hR1 : RM T S G1 := by rw [hG1]; exact hR.ob
  refine V_aload_n rfl (by first | rfl | assumption) ?_
  refine V_aload_n rfl (by first | rfl | assumption) ?_
  refine V_getf rfl rfl rfl (by repeat (first | exact hup_eq | assumption | refine Eq.trans (hup_ne (by first | assumption | exact Ne.symm (by assumption) | decide | omega)) ?_)) (by first | rfl | assumption) ?_
  refine V_bipush (v := nI 32) rfl (by decide) ?_
  refine V_iload_n rfl (by first | rfl | assumption) ?_
  refine V_bipush (v := nI 32) rfl (by decide) ?_
  refine V_isubN rfl (by first | omega | decide) ?_
  refine V_aload_n rfl (by first | rfl | assumption) ?_
  refine V_getf rfl rfl rfl (by repeat (first | exact hup_eq | assumption | refine Eq.trans (hup_ne (by first | assumption | exact Ne.symm (by assumption) | decide | omega)) ?_)) (by first | rfl | assumption) ?_
  refine V_iconst (v := nI 0) rfl (by decide) ?_
  refine V_callV (M' := mX12_seal) (mc := 0) (ms := 0) (bc' := 0) (bs' := 0) rfl cw_X12_288 iv_X12_seal (by repeat (first | exact hup_eq | assumption | refine Eq.trans (hup_ne (by first | assumption | exact Ne.symm (by assumption) | decide | omega)) ?_)) rfl rfl (Nat.le_of_ble_eq_true rfl) ⟨Nat.le_of_ble_eq_true rfl, Nat.le_of_ble_eq_true rfl⟩ ⟨Nat.le_of_ble_eq_true rfl, Nat.le_of_ble_eq_true rfl⟩ (As := [.ref 141, .int (nI 32), .int (nI ((tpe S).length - 32)), .ref 141, .int (nI 0)]) (c_mseal (Q := fun o G2 => o = .inl none ∧ ∃ t, FP PT G1 G2 ∧ tM G2 ∧ G2.1 156 = some (YA 16 t) ∧ (∀ j, t j < 256) ∧ ∀ j, j < 16 → t j = TAG (sft b 32) ((tpe S).length - 32) (sft b 0) j) k140 hR1.1.2.2.2.2.1 k141 (Or.inl rfl) (by omega) (by decide) hb k141 (Or.inl rfl) (by decide) hb (fun G2 t h1 h2 h3 h4 h5 => ⟨rfl, t, h1, h2, h3, h4, h5⟩)) (fun o G2 h => ?_) (fun E G' h => by cases h.1)
  obtain ⟨h, t, F2, tm2, j156, ht1, ht2⟩ := h
  cases h
  have j140 := F2.get (by decide) k140
  have j141 := F2.get (by decide) k141
  have j142 := F2.get (by decide) k142
  have hR2 : RM T S G2 := hR1.sc (hR1.1.tm tm2 (fun j hj => F2.2 j (by unfold PT; omega))) (fun j a b => F2.2 j (by unfold PT; omega))
  refine V_aload_n rfl (by first | rfl | assumption) ?_
  refine V_aload_n rfl (by first | rfl | assumption) ?_
  refine V_getf rfl rfl rfl (by repeat (first | exact hup_eq | assumption | refine Eq.trans (hup_ne (by first | assumption | exact Ne.symm (by assumption) | decide | omega)) ?_)) (by first | rfl | assumption) ?_
  refine V_iconst (v := nI 0) rfl (by decide) ?_
  refine V_bipush (v := nI 16) rfl (by decide) ?_
  refine V_callV (M' := mX12_tell) (mc := 0) (ms := 0) (bc' := 0) (bs' := 0) rfl cw_X12_274 iv_X12_tell (by repeat (first | exact hup_eq | assumption | refine Eq.trans (hup_ne (by first | assumption | exact Ne.symm (by assumption) | decide | omega)) ?_)) rfl rfl (Nat.le_of_ble_eq_true rfl) ⟨Nat.le_of_ble_eq_true rfl, Nat.le_of_ble_eq_true rfl⟩ ⟨Nat.le_of_ble_eq_true rfl, Nat.le_of_ble_eq_true rfl⟩ (As := [.ref 156, .int (nI 0), .int (nI 16)]) (c_mtell (Q := fun o G6 => o = .inl none ∧ G6 = hup (hup G2 140 (MO (nI 0) (nI 0) (nI 16) hs ps rs)) 142 (YA 64 (ovw ob 0 16 (sft t 0)))) j140 j142 j156 (by decide) ht1 (by decide) (by decide) (by decide) ⟨rfl, rfl⟩) (fun o G6 h => ?_) (fun E G' h => by cases h.1)
  obtain ⟨h, h5⟩ := h
  cases h
  refine V_vret rfl rfl (hq _ ?_ (RMA.told (g := TAG (sft (gD (tpe S)) 32) ((tpe S).length - 32) (gD (tpe S))) hR2 h5 hob (fun j hj => ?_) (fun j _ => TAG_lt _ _ _ j) (by decide) ⟨b, j141, hb, rfl, Nat.zero_le _⟩))
  · rw [h5]
    exact (((F1.sub (fun x hx => by rw [hx]; decide)).trans F2 (fun x hx => by unfold PT at hx; unfold PM; omega)).hup (by decide)).hup (by decide)
  · show t (0 + j) = _
    rw [Nat.zero_add, ht2 j hj]
    exact TAG_congr (fun j hj => by unfold sft; rw [gD_of hl (by omega)]) (fun j hj => by rw [gD_of hl (by omega)]; unfold sft; rw [Nat.zero_add]) j
end MApi2
