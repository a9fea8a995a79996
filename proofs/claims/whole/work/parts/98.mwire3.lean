section MWire3
variable {K : kK} {G : kG} {Q : kO → kG → Prop} {T : TB} {S : SG} {th ta os hs ps rs : Int32}
theorem RM.r161 {S' : SG} {G' : kG} (h : RM T S G) (F : ∀ j, 143 ≤ j → j ≤ 181 → j ≠ 161 → G'.1 j = G.1 j) (hw : rwo S S') (hk : ∀ i j, i < 10 → rw9 (S'.1 j) i = rw9 (S.1 j) i) (e2 : S'.2.1 = S.2.1) (h2 : rNk S' G') : RM T S' G' := by
  refine h.rw hw (fun j a b c => F j a b (by omega)) ?_ ?_ ?_ ?_ h2
  · exact (h.2.1.fp (F _ (by decide) (by decide) (by decide))).st (fun j _ => ⟨hk _ j (by decide), hk _ j (by decide), hk _ j (by decide)⟩) e2
  · exact (h.2.2.1.fp (F _ (by decide) (by decide) (by decide))).st (fun j _ => hk _ j (by decide))
  · exact (h.2.2.2.1.fp (F _ (by decide) (by decide) (by decide))).st (fun j _ => ⟨hk _ j (by decide), hk _ j (by decide)⟩)
  · exact (h.2.2.2.2.1.fp (F _ (by decide) (by decide) (by decide))).st (fun j _ => ⟨hk _ j (by decide), hk _ j (by decide), hk _ j (by decide), hk _ j (by decide)⟩)
def offK (e k : Nat) : Nat := 128 * e + (if k / 2 = e then 0 else 64) + 32 * (k % 2)
theorem offK_ne : ∀ e, e < 2 → ∀ i, i < 4 → ∀ k, k < i → offK e k + 32 ≤ offK e i ∨ offK e i + 32 ≤ offK e k := by decide
theorem offK_b : ∀ e, e < 2 → ∀ i, i < 4 → 128 * e ≤ offK e i ∧ offK e i + 32 ≤ 128 * e + 128 := by decide
abbrev PK (j : Nat) : Prop := PD j ∨ j = 161
/-- the session's row is there: the four keys are made -/
def mkS (T : TB) (s : ES) (sh H : Nat → Nat) (cm : Nat) : ES := srw (srw s 10 (kyH T sh H (rw9 s 2) cm)) 11 (kyH T sh H (rw9 s 2) (cm + 1))
theorem rwo_sE2 {e : Nat} {s : ES} (h : fl s = fl (S.1 e) ∧ nm s = nm (S.1 e) ∧ un s = un (S.1 e) ∧ gt s = gt (S.1 e) ∧ wi s = wi (S.1 e)) : rwo S (sE S e s) := fun j => ⟨sE_fl (S := S) h.1 j, sE_nm (S := S) h.2.1 j, sE_un (S := S) h.2.2.1 j, sE_gt (S := S) h.2.2.2.1 j, sE_wi (S := S) h.2.2.2.2 j⟩
set_option maxHeartbeats 16000000 in
theorem V_mkeys {e : Nat} {R sh H : Nat → Nat} {lc : kLo} (he : e < 2) (l0 : lc 0 = some (.ref 140)) (l1 : lc 1 = some (.int (nI e))) (g140 : G.1 140 = some (MO th ta os hs ps rs)) (hR : RM T S G) (g157 : G.1 157 = some (YA 640 R)) (hRP : rowP S R) (hsh : ∀ j, j < 32 → R (32 * 11 + j) = sh j) (hH : ∀ j, j < 32 → R (32 * 13 + j) = H j)
    (hq : ∀ G' hs' NK, FP PK G G' → RM T (sE S e (mkS T (S.1 e) sh H (if e = 0 then 67 else 65))) G' → G'.1 140 = some (MO th ta os hs' ps rs) → G'.1 161 = some (YA 256 NK) → (∀ j, NK j < 256) → (∀ j, j < 32 → NK (128 * e + j) = kyH T sh H (rw9 (S.1 e) 2) (if e = 0 then 65 else 67) j ∧ NK (128 * e + 32 + j) = kyH T sh H (rw9 (S.1 e) 2) ((if e = 0 then 65 else 67) + 1) j) → Q (.inl none) G') : V K 0 0 mX12_makeKeys 55 lc [] G Q := by
  obtain ⟨NK0, g161, hNb, hN⟩ := id hR.2.2.2.2.2.1
  obtain ⟨ss, hss⟩ : ∃ ss, ss = rw9 (S.1 e) 2 := ⟨_, rfl⟩
  refine V_iconst (v := nI 0) rfl (by decide) ?_
  refine V_istore_n rfl (by decide) ?_
  refine V_loop 4 (fun i lc G' => lc 0 = some (.ref 140) ∧ lc 1 = some (.int (nI e)) ∧ lc 2 = some (.int (nI i)) ∧ ∃ hs' NK R', FP PK G G' ∧ scM T G' ∧ G'.1 140 = some (MO th ta os hs' ps rs) ∧ G'.1 161 = some (YA 256 NK) ∧ (∀ j, NK j < 256) ∧ (∀ k, k < i → ∀ j, j < 32 → NK (offK e k + j) = kyH T sh H ss (65 + k) j) ∧ (∀ j, j < 128 * e ∨ 128 * e + 128 ≤ j → NK j = NK0 j) ∧ G'.1 157 = some (YA 640 R') ∧ rowP S R' ∧ (∀ j, j ≠ 480 → R' j = R j)) ?_ ?_ 0 _ _ (Nat.zero_le _) ⟨l0, l1, rfl, hs, NK0, R, FP.rf, hR.1, g140, g161, hNb, fun k hk => absurd hk (Nat.not_lt_zero k), fun _ _ => rfl, g157, hRP, fun _ _ => rfl⟩
  · rintro i lc G' hi ⟨l0, l1, l2, hs1, NK, R', F, sc, k140, k161, hNKb, hNKi, hNKo, k157, hRP', hRo⟩ ih
    have t74 : ∀ b : Bool, b = decide (i / 2 = e) → V K 0 0 mX12_makeKeys 74 lc [.int (bI b)] G' Q := by
      intro b hb
      refine V_istore_n rfl (by decide) ?_
      refine V_aload_n rfl (by first | rfl | assumption) ?_
      refine V_getf rfl rfl rfl (by repeat (first | exact hup_eq | assumption | refine Eq.trans (hup_ne (by first | assumption | exact Ne.symm (by assumption) | decide | omega)) ?_)) (by first | rfl | assumption) ?_
      refine V_bipush (v := nI 15) rfl (by decide) ?_
      refine V_callS (M' := mX12_row) (mc := 0) (ms := 0) (bc' := 0) (bs' := 0) rfl cw_X12_267 is_X12_row rfl (Nat.le_of_ble_eq_true rfl) ⟨Nat.le_of_ble_eq_true rfl, Nat.le_of_ble_eq_true rfl⟩ ⟨Nat.le_of_ble_eq_true rfl, Nat.le_of_ble_eq_true rfl⟩ (As := [.int (nI 15)]) (c_mrow (Q := fun o G9 => o = .inl (some (.int (nI (32 * 15)))) ∧ G9 = G') ⟨rfl, rfl⟩) (fun o G9 h => ?_) (fun E G' h => by cases h.1)
      obtain ⟨h, h9⟩ := h
      cases h
      rw [h9]
      clear h9
      refine V_bipush (v := nI 65) rfl (by decide) ?_
      refine V_iload_n rfl (by first | rfl | assumption) ?_
      refine V_iaddN rfl ?_
      refine V_i2bN rfl ?_
      refine V_bastB rfl (by repeat (first | exact hup_eq | assumption | refine Eq.trans (hup_ne (by first | assumption | exact Ne.symm (by assumption) | decide | omega)) ?_)) rfl (by first | omega | decide) (by first | omega | decide) (by first | assumption | solve_by_elim | exact Nat.mod_lt _ (by decide) | omega) ?_
      obtain ⟨R2, hR2⟩ : ∃ R2, R2 = updN R' (32 * 15) ((65 + i) % 256) := ⟨_, rfl⟩
      rw [← hR2]
      have hR2o : ∀ j, j ≠ 480 → R2 j = R j := fun j hj => by rw [hR2, updN_ne hj]; exact hRo j hj
      have hR2b : ∀ j, R2 j < 256 := fun j => by
        rw [hR2]
        by_cases x : j = 32 * 15
        · rw [x, updN_eq]; exact Nat.mod_lt _ (by decide)
        · rw [updN_ne x]; exact hRP'.1 j
      have hRP2 : rowP S R2 := by
        refine ⟨hR2b, fun j hj => ⟨fun i hi => ?_, ?_, ?_, ?_⟩⟩
        · rw [hR2o _ (by omega), hR2o _ (by omega), hR2o _ (by omega)]; exact (hRP.2 j hj).1 i hi
        · rw [hR2o _ (by omega)]; exact (hRP.2 j hj).2.1
        · rw [hR2o _ (by omega)]; exact (hRP.2 j hj).2.2.1
        · rw [hR2o _ (by omega)]; exact (hRP.2 j hj).2.2.2
      have c11 : ∀ j, j < 32 → sft R2 (32 * 11) j = sh j := fun j hj => (hR2o _ (by omega)).trans (hsh j hj)
      have c13 : ∀ j, j < 32 → sft R2 (32 * 13) j = H j := fun j hj => (hR2o _ (by omega)).trans (hH j hj)
      have c4 : ∀ j, j < 32 → sft R2 (32 * (4 + e)) j = ss j := fun j hj => by rw [hss]; exact ((hRP2.2 j hj).1 e he).2.2
      have c15 : ∀ j, j < 1 → sft R2 (32 * 15) j = (fun _ => 65 + i) j := fun j hj => by
        have : j = 0 := by omega
        subst this
        unfold sft
        rw [hR2, Nat.add_zero, updN_eq, Nat.mod_eq_of_lt (by omega)]
      have hl : mhl [] (hup G' 157 (YA 640 R2)) := sc.2.2.1.fp (hup_ne (by decide))
      have hm : hM T (hup G' 157 (YA 640 R2)) := sc.2.1.fq (fun j hj => hup_ne (by omega))
      have q140 : (hup G' 157 (YA 640 R2)).1 140 = some (MO th ta os hs1 ps rs) := (hup_ne (by decide)).trans k140
      have q161 : (hup G' 157 (YA 640 R2)).1 161 = some (YA 256 NK) := (hup_ne (by decide)).trans k161
      have q157 : (hup G' 157 (YA 640 R2)).1 157 = some (YA 640 R2) := hup_eq
      have F0 : FP PK G (hup G' 157 (YA 640 R2)) := F.hup (by unfold PK PD; omega)
      have sc0 : scM T (hup G' 157 (YA 640 R2)) := sc.fp (fun j hj => hup_ne (by omega))
      generalize hup G' 157 (YA 640 R2) = Gb at hl hm q140 q161 q157 F0 sc0
      clear k140 k161 k157 F sc hRP' hRo hR2
      have k140 := q140
      have k161 := q161
      have k157 := q157
      clear q140 q161 q157
      refine V_aload_n rfl (by assumption) ?_
      refine V_callV (M' := mX12_hashBegin) (mc := 0) (ms := 0) (bc' := 0) (bs' := 0) rfl cw_X12_278 iv_X12_hashBegin (by repeat (first | exact hup_eq | assumption | refine Eq.trans (hup_ne (by first | assumption | exact Ne.symm (by assumption) | decide | omega)) ?_)) rfl rfl (Nat.le_of_ble_eq_true rfl) ⟨Nat.le_of_ble_eq_true rfl, Nat.le_of_ble_eq_true rfl⟩ ⟨Nat.le_of_ble_eq_true rfl, Nat.le_of_ble_eq_true rfl⟩ (As := []) (c_mhbegin (Q := fun o Ga1 => o = .inl none ∧ Ga1 = hup Gb 140 (MO th ta os (nI ([] : List Nat).length) ps rs)) k140 ⟨rfl, rfl⟩) (fun o Ga1 h => ?_) (fun E G' h => by cases h.1)
      obtain ⟨h, hG⟩ := h
      cases h
      have FX : FP (fun j => j = 140 ∨ j = 149) Gb Ga1 := by rw [hG]; exact FP.rf.hup (Or.inl rfl)
      have k140 : Ga1.1 140 = some (MO th ta os (nI ([] : List Nat).length) ps rs) := by rw [hG]; exact hup_eq
      have hl : mhl [] Ga1 := hl.fp (by rw [hG]; exact hup_ne (by decide))
      clear hG
      have FH := FX
      have k157 := FX.get (by decide) k157
      have k161 := FX.get (by decide) k161
      refine V_aload_n rfl (by first | rfl | assumption) ?_
      refine V_aload_n rfl (by first | rfl | assumption) ?_
      refine V_getf rfl rfl rfl (by repeat (first | exact hup_eq | assumption | refine Eq.trans (hup_ne (by first | assumption | exact Ne.symm (by assumption) | decide | omega)) ?_)) (by first | rfl | assumption) ?_
      refine V_bipush (v := nI 11) rfl (by decide) ?_
      refine V_callS (M' := mX12_row) (mc := 0) (ms := 0) (bc' := 0) (bs' := 0) rfl cw_X12_267 is_X12_row rfl (Nat.le_of_ble_eq_true rfl) ⟨Nat.le_of_ble_eq_true rfl, Nat.le_of_ble_eq_true rfl⟩ ⟨Nat.le_of_ble_eq_true rfl, Nat.le_of_ble_eq_true rfl⟩ (As := [.int (nI 11)]) (c_mrow (Q := fun o G9 => o = .inl (some (.int (nI (32 * 11)))) ∧ G9 = Ga1) ⟨rfl, rfl⟩) (fun o G9 h => ?_) (fun E G' h => by cases h.1)
      obtain ⟨h, h9⟩ := h
      cases h
      rw [h9]
      clear h9
      refine V_bipush (v := nI 32) rfl (by decide) ?_
      refine V_callV (M' := mX12_hashAdd) (mc := 0) (ms := 0) (bc' := 0) (bs' := 0) rfl cw_X12_281 iv_X12_hashAdd (by repeat (first | exact hup_eq | assumption | refine Eq.trans (hup_ne (by first | assumption | exact Ne.symm (by assumption) | decide | omega)) ?_)) rfl rfl (Nat.le_of_ble_eq_true rfl) ⟨Nat.le_of_ble_eq_true rfl, Nat.le_of_ble_eq_true rfl⟩ ⟨Nat.le_of_ble_eq_true rfl, Nat.le_of_ble_eq_true rfl⟩ (As := [.ref 157, .int (nI (32 * 11)), .int (nI 32)]) (c_mhadd (l := []) (Q := fun o Ga2 => o = .inl none ∧ FP (fun j => j = 140 ∨ j = 149) Ga1 Ga2 ∧ Ga2.1 140 = some (MO th ta os (nI (lst sh 32).length) ps rs) ∧ mhl (lst sh 32) Ga2) k140 hl k157 (by decide) (by omega) (by decide) hR2b (by simp only [List.length_append, List.length_nil, List.length_singleton, lst_len]; decide) (fun G9 h1 h2 h3 => ?_)) (fun o Ga2 h => ?_) (fun E G' h => by cases h.1)
      · rw [List.nil_append, lst_congr c11] at h2 h3
        exact ⟨rfl, h1, h2, h3⟩
      obtain ⟨h, FX, k140, hl⟩ := h
      cases h
      have FH := FH.trans FX (fun _ q => q)
      have k157 := FX.get (by decide) k157
      have k161 := FX.get (by decide) k161
      refine V_aload_n rfl (by first | rfl | assumption) ?_
      refine V_aload_n rfl (by first | rfl | assumption) ?_
      refine V_getf rfl rfl rfl (by repeat (first | exact hup_eq | assumption | refine Eq.trans (hup_ne (by first | assumption | exact Ne.symm (by assumption) | decide | omega)) ?_)) (by first | rfl | assumption) ?_
      refine V_bipush (v := nI 13) rfl (by decide) ?_
      refine V_callS (M' := mX12_row) (mc := 0) (ms := 0) (bc' := 0) (bs' := 0) rfl cw_X12_267 is_X12_row rfl (Nat.le_of_ble_eq_true rfl) ⟨Nat.le_of_ble_eq_true rfl, Nat.le_of_ble_eq_true rfl⟩ ⟨Nat.le_of_ble_eq_true rfl, Nat.le_of_ble_eq_true rfl⟩ (As := [.int (nI 13)]) (c_mrow (Q := fun o G9 => o = .inl (some (.int (nI (32 * 13)))) ∧ G9 = Ga2) ⟨rfl, rfl⟩) (fun o G9 h => ?_) (fun E G' h => by cases h.1)
      obtain ⟨h, h9⟩ := h
      cases h
      rw [h9]
      clear h9
      refine V_bipush (v := nI 32) rfl (by decide) ?_
      refine V_callV (M' := mX12_hashAdd) (mc := 0) (ms := 0) (bc' := 0) (bs' := 0) rfl cw_X12_281 iv_X12_hashAdd (by repeat (first | exact hup_eq | assumption | refine Eq.trans (hup_ne (by first | assumption | exact Ne.symm (by assumption) | decide | omega)) ?_)) rfl rfl (Nat.le_of_ble_eq_true rfl) ⟨Nat.le_of_ble_eq_true rfl, Nat.le_of_ble_eq_true rfl⟩ ⟨Nat.le_of_ble_eq_true rfl, Nat.le_of_ble_eq_true rfl⟩ (As := [.ref 157, .int (nI (32 * 13)), .int (nI 32)]) (c_mhadd (l := lst sh 32) (Q := fun o Ga3 => o = .inl none ∧ FP (fun j => j = 140 ∨ j = 149) Ga2 Ga3 ∧ Ga3.1 140 = some (MO th ta os (nI (lst sh 32 ++ lst H 32).length) ps rs) ∧ mhl (lst sh 32 ++ lst H 32) Ga3) k140 hl k157 (by decide) (by omega) (by decide) hR2b (by simp only [List.length_append, List.length_nil, List.length_singleton, lst_len]; decide) (fun G9 h1 h2 h3 => ?_)) (fun o Ga3 h => ?_) (fun E G' h => by cases h.1)
      · rw [lst_congr c13] at h2 h3
        exact ⟨rfl, h1, h2, h3⟩
      obtain ⟨h, FX, k140, hl⟩ := h
      cases h
      have FH := FH.trans FX (fun _ q => q)
      have k157 := FX.get (by decide) k157
      have k161 := FX.get (by decide) k161
      refine V_aload_n rfl (by first | rfl | assumption) ?_
      refine V_aload_n rfl (by first | rfl | assumption) ?_
      refine V_getf rfl rfl rfl (by repeat (first | exact hup_eq | assumption | refine Eq.trans (hup_ne (by first | assumption | exact Ne.symm (by assumption) | decide | omega)) ?_)) (by first | rfl | assumption) ?_
      refine V_bipush (v := nI 15) rfl (by decide) ?_
      refine V_callS (M' := mX12_row) (mc := 0) (ms := 0) (bc' := 0) (bs' := 0) rfl cw_X12_267 is_X12_row rfl (Nat.le_of_ble_eq_true rfl) ⟨Nat.le_of_ble_eq_true rfl, Nat.le_of_ble_eq_true rfl⟩ ⟨Nat.le_of_ble_eq_true rfl, Nat.le_of_ble_eq_true rfl⟩ (As := [.int (nI 15)]) (c_mrow (Q := fun o G9 => o = .inl (some (.int (nI (32 * 15)))) ∧ G9 = Ga3) ⟨rfl, rfl⟩) (fun o G9 h => ?_) (fun E G' h => by cases h.1)
      obtain ⟨h, h9⟩ := h
      cases h
      rw [h9]
      clear h9
      refine V_iconst (v := nI 1) rfl (by decide) ?_
      refine V_callV (M' := mX12_hashAdd) (mc := 0) (ms := 0) (bc' := 0) (bs' := 0) rfl cw_X12_281 iv_X12_hashAdd (by repeat (first | exact hup_eq | assumption | refine Eq.trans (hup_ne (by first | assumption | exact Ne.symm (by assumption) | decide | omega)) ?_)) rfl rfl (Nat.le_of_ble_eq_true rfl) ⟨Nat.le_of_ble_eq_true rfl, Nat.le_of_ble_eq_true rfl⟩ ⟨Nat.le_of_ble_eq_true rfl, Nat.le_of_ble_eq_true rfl⟩ (As := [.ref 157, .int (nI (32 * 15)), .int (nI 1)]) (c_mhadd (l := lst sh 32 ++ lst H 32) (Q := fun o Ga4 => o = .inl none ∧ FP (fun j => j = 140 ∨ j = 149) Ga3 Ga4 ∧ Ga4.1 140 = some (MO th ta os (nI (lst sh 32 ++ lst H 32 ++ [65 + i]).length) ps rs) ∧ mhl (lst sh 32 ++ lst H 32 ++ [65 + i]) Ga4) k140 hl k157 (by decide) (by omega) (by decide) hR2b (by simp only [List.length_append, List.length_nil, List.length_singleton, lst_len]; decide) (fun G9 h1 h2 h3 => ?_)) (fun o Ga4 h => ?_) (fun E G' h => by cases h.1)
      · rw [lst_congr c15] at h2 h3
        exact ⟨rfl, h1, h2, h3⟩
      obtain ⟨h, FX, k140, hl⟩ := h
      cases h
      have FH := FH.trans FX (fun _ q => q)
      have k157 := FX.get (by decide) k157
      have k161 := FX.get (by decide) k161
      refine V_aload_n rfl (by first | rfl | assumption) ?_
      refine V_aload_n rfl (by first | rfl | assumption) ?_
      refine V_getf rfl rfl rfl (by repeat (first | exact hup_eq | assumption | refine Eq.trans (hup_ne (by first | assumption | exact Ne.symm (by assumption) | decide | omega)) ?_)) (by first | rfl | assumption) ?_
      refine V_iconst (v := nI 4) rfl (by decide) ?_
      refine V_iload_n rfl (by first | rfl | assumption) ?_
      refine V_iaddN rfl ?_
      refine V_callS (M' := mX12_row) (mc := 0) (ms := 0) (bc' := 0) (bs' := 0) rfl cw_X12_267 is_X12_row rfl (Nat.le_of_ble_eq_true rfl) ⟨Nat.le_of_ble_eq_true rfl, Nat.le_of_ble_eq_true rfl⟩ ⟨Nat.le_of_ble_eq_true rfl, Nat.le_of_ble_eq_true rfl⟩ (As := [.int (nI (4 + e))]) (c_mrow (Q := fun o G9 => o = .inl (some (.int (nI (32 * (4 + e))))) ∧ G9 = Ga4) ⟨rfl, rfl⟩) (fun o G9 h => ?_) (fun E G' h => by cases h.1)
      obtain ⟨h, h9⟩ := h
      cases h
      rw [h9]
      clear h9
      refine V_bipush (v := nI 32) rfl (by decide) ?_
      refine V_callV (M' := mX12_hashAdd) (mc := 0) (ms := 0) (bc' := 0) (bs' := 0) rfl cw_X12_281 iv_X12_hashAdd (by repeat (first | exact hup_eq | assumption | refine Eq.trans (hup_ne (by first | assumption | exact Ne.symm (by assumption) | decide | omega)) ?_)) rfl rfl (Nat.le_of_ble_eq_true rfl) ⟨Nat.le_of_ble_eq_true rfl, Nat.le_of_ble_eq_true rfl⟩ ⟨Nat.le_of_ble_eq_true rfl, Nat.le_of_ble_eq_true rfl⟩ (As := [.ref 157, .int (nI (32 * (4 + e))), .int (nI 32)]) (c_mhadd (l := lst sh 32 ++ lst H 32 ++ [65 + i]) (Q := fun o Ga5 => o = .inl none ∧ FP (fun j => j = 140 ∨ j = 149) Ga4 Ga5 ∧ Ga5.1 140 = some (MO th ta os (nI (lst sh 32 ++ lst H 32 ++ [65 + i] ++ lst ss 32).length) ps rs) ∧ mhl (lst sh 32 ++ lst H 32 ++ [65 + i] ++ lst ss 32) Ga5) k140 hl k157 (by decide) (by omega) (by decide) hR2b (by simp only [List.length_append, List.length_nil, List.length_singleton, lst_len]; decide) (fun G9 h1 h2 h3 => ?_)) (fun o Ga5 h => ?_) (fun E G' h => by cases h.1)
      · rw [lst_congr c4] at h2 h3
        exact ⟨rfl, h1, h2, h3⟩
      obtain ⟨h, FX, k140, hl⟩ := h
      cases h
      have FH := FH.trans FX (fun _ q => q)
      have k157 := FX.get (by decide) k157
      have k161 := FX.get (by decide) k161
      have hm : hM T Ga5 := hm.fq (fun j hj => FH.2 j (by omega))
      have ho := offK_b e he i hi
      have t174 : ∀ (lc9 : kLo) (x : Nat), lc9 0 = some (.ref 140) → lc9 1 = some (.int (nI e)) → lc9 2 = some (.int (nI i)) → x = (if i / 2 = e then 0 else 64) → V K 0 0 mX12_makeKeys 174 lc9 [.int (nI x), .int (nI (128 * e)), .ref 161, .ref 140] Ga5 Q := by
        intro lc9 x m0 m1 m2 hx
        refine V_iaddN rfl ?_
        refine V_bipush (v := nI 32) rfl (by decide) ?_
        refine V_iload_n rfl (by first | rfl | assumption) ?_
        refine V_iconst (v := nI 2) rfl (by decide) ?_
        refine V_iremN rfl (by first | omega | decide) (by first | omega | decide) (by first | omega | decide) ?_
        refine V_imulN rfl ?_
        refine V_iaddN rfl ?_
        rw [show 128 * e + x + 32 * (i % 2) = offK e i from by unfold offK; rw [hx]]
        refine V_callV (M' := mX12_hashEnd) (mc := 0) (ms := 0) (bc' := 0) (bs' := 0) rfl cw_X12_284 iv_X12_hashEnd (by repeat (first | exact hup_eq | assumption | refine Eq.trans (hup_ne (by first | assumption | exact Ne.symm (by assumption) | decide | omega)) ?_)) rfl rfl (Nat.le_of_ble_eq_true rfl) ⟨Nat.le_of_ble_eq_true rfl, Nat.le_of_ble_eq_true rfl⟩ ⟨Nat.le_of_ble_eq_true rfl, Nat.le_of_ble_eq_true rfl⟩ (As := [.ref 161, .int (nI (offK e i))]) (c_mhend (T := T) (l := lst sh 32 ++ lst H 32 ++ [65 + i] ++ lst ss 32) (Q := fun o Ga6 => o = .inl none ∧ FP (fun j => PH j ∨ j = 161) Ga5 Ga6 ∧ hM T Ga6 ∧ mhl [] Ga6 ∧ Ga6.1 161 = some (YA 256 (ovw NK (offK e i) 32 (hL T (lst sh 32 ++ lst H 32 ++ [65 + i] ++ lst ss 32))))) k140 hm hl (by simp only [List.length_append, List.length_singleton, lst_len]; decide) k161 (Or.inr rfl) (by omega) (fun G4 h1 h2 h3 h4 => ⟨rfl, h1, h2, h3, h4⟩)) (fun o Ga6 h => ?_) (fun E G' h => by cases h.1)
        obtain ⟨h, FE, hm9, hl9, k161⟩ := h
        cases h
        have k140 := FE.get (by unfold PH; decide) k140
        have k157 := FE.get (by unfold PH; decide) k157
        have FF : FP PK G Ga6 := (F0.trans FH (fun _ q => by unfold PK PD PH; omega)).trans FE (fun _ q => by unfold PK PD; omega)
        have F9 : FP (fun j => j = 140 ∨ PH j ∨ j = 161) Gb Ga6 := (FH.sub (fun _ q => by unfold PH; omega)).trans FE (fun _ q => by omega)
        have sc9 : scM T Ga6 := sc0.ha hm9 hl9 (fun j hj => F9.2 j (by unfold PH; omega))
        refine V_iincN (d := 1) rfl (by first | rfl | assumption) (by decide) (by decide) ?_
        refine V_goto rfl ?_
        refine ih _ _ ⟨m0, m1, rfl, _, _, R2, FF, sc9, k140, k161, ovw_lt hNKb (fun j _ => HSH_lt _ _ _ j), fun k hk j hj => ?_, fun j hj => ?_, k157, hRP2, hR2o⟩
        · by_cases x : k = i
          · subst x; rw [ovw_in hj]; rfl
          · have := offK_ne e he i hi k (by omega)
            rw [ovw_out (by omega)]; exact hNKi k (by omega) j hj
        · rw [ovw_out (by omega)]; exact hNKo j hj
      refine V_aload_n rfl (by first | rfl | assumption) ?_
      refine V_aload_n rfl (by first | rfl | assumption) ?_
      refine V_getf rfl rfl rfl (by repeat (first | exact hup_eq | assumption | refine Eq.trans (hup_ne (by first | assumption | exact Ne.symm (by assumption) | decide | omega)) ?_)) (by first | rfl | assumption) ?_
      refine V_sipush (v := nI 128) rfl (by decide) ?_
      refine V_iload_n rfl (by first | rfl | assumption) ?_
      refine V_imulN rfl ?_
      refine V_iload_n rfl (by rfl) ?_
      refine V_if_eqB rfl (fun z => ?_) (fun z => ?_)
      · refine V_bipush (v := nI 64) rfl (by decide) ?_
        refine t174 _ 64 l0 l1 l2 ?_
        rw [z] at hb
        rw [if_neg (of_decide_eq_false hb.symm)]
      · refine V_iconst (v := nI 0) rfl (by decide) ?_
        refine V_goto rfl ?_
        refine t174 _ 0 l0 l1 l2 ?_
        rw [z] at hb
        rw [if_pos (of_decide_eq_true hb.symm)]
    refine V_iload_n rfl (by first | rfl | assumption) ?_
    refine V_iconst (v := nI 4) rfl (by decide) ?_
    refine V_icmp_geN rfl (by omega) (by decide) (fun h => absurd h (by omega)) (fun _ => ?_)
    refine V_iload_n rfl (by first | rfl | assumption) ?_
    refine V_iconst (v := nI 2) rfl (by decide) ?_
    refine V_idivN rfl (by first | omega | decide) (by first | omega | decide) (by first | omega | decide) ?_
    refine V_iload_n rfl (by first | rfl | assumption) ?_
    refine V_icmp_neN rfl (by omega) (by omega) (fun h => ?_) (fun h => ?_)
    · refine V_iconst (v := bI false) rfl (by decide) ?_
      exact t74 false (by rw [decide_eq_false h])
    · refine V_iconst (v := bI true) rfl (by decide) ?_
      refine V_goto rfl ?_
      exact t74 true (by rw [decide_eq_true h])
  · rintro lc G' ⟨l0, l1, l2, hs1, NK, R', F, sc, k140, k161, hNKb, hNKi, hNKo, k157, hRP', hRo⟩
    refine V_iload_n rfl (by first | rfl | assumption) ?_
    refine V_iconst (v := nI 4) rfl (by decide) ?_
    refine V_icmp_geN rfl (by decide) (by decide) (fun _ => ?_) (fun h => absurd (Nat.le_refl _) h)
    have o0 : ∀ j, j < 32 → NK (offK e 0 + j) = kyH T sh H ss 65 j := hNKi 0 (by decide)
    have o1 : ∀ j, j < 32 → NK (offK e 1 + j) = kyH T sh H ss 66 j := hNKi 1 (by decide)
    have o2 : ∀ j, j < 32 → NK (offK e 2 + j) = kyH T sh H ss 67 j := hNKi 2 (by decide)
    have o3 : ∀ j, j < 32 → NK (offK e 3 + j) = kyH T sh H ss 68 j := hNKi 3 (by decide)
    have fin : (∀ j, j < 32 → NK (128 * e + j) = kyH T sh H ss (if e = 0 then 65 else 67) j ∧ NK (128 * e + 32 + j) = kyH T sh H ss ((if e = 0 then 65 else 67) + 1) j) ∧ ∀ j, j < 32 → NK (128 * e + 64 + j) = kyH T sh H ss (if e = 0 then 67 else 65) j ∧ NK (128 * e + 96 + j) = kyH T sh H ss ((if e = 0 then 67 else 65) + 1) j := by
      have : e = 0 ∨ e = 1 := by omega
      rcases this with rfl | rfl
      · exact ⟨fun j hj => ⟨o0 j hj, o1 j hj⟩, fun j hj => ⟨o2 j hj, o3 j hj⟩⟩
      · exact ⟨fun j hj => ⟨o2 j hj, o3 j hj⟩, fun j hj => ⟨o0 j hj, o1 j hj⟩⟩
    rw [hss] at fin
    refine V_vret rfl rfl (hq _ _ NK F ?_ k140 k161 hNKb fin.1)
    have hR0 : RM T S (hup G' 161 (YA 256 NK0)) := by
      refine hR.sr (sc.fp (fun j hj => hup_ne (by omega))) ⟨R', (hup_ne (by decide)).trans k157, hRP'⟩ (fun j a b => ?_)
      by_cases x : j = 161
      · rw [x, hup_eq, g161]
      · rw [hup_ne x]; exact F.2 j (by unfold PK PD PH; omega)
    refine hR0.r161 (fun j a b x => (hup_ne x).symm) (rwo_sE2 ⟨rfl, rfl, rfl, rfl, rfl⟩) (fun i j hi => congrFun (pj_same (S := S) (fun s => rw9 s i) (by show (if i = 11 then _ else if i = 10 then _ else rw9 (S.1 e) i) = _; rw [if_neg (by omega), if_neg (by omega)])) j) rfl ⟨NK, k161, hNKb, fun i hi j hj => ?_⟩
    by_cases x : i = e
    · subst x
      rw [sE_e]
      exact fin.2 j hj
    · rw [sE_n x, hNKo _ (by omega), hNKo _ (by omega)]
      exact hN i hi j hj
def ses (s : ES) (H : Nat → Nat) : ES := if fl s 1 then s else sfl (srw s 2 H) 1 true
theorem up_same {α : Type} {f : Nat → α} {k : Nat} {x : α} (h : f k = x) : up f k x = f := by
  funext j
  unfold up
  split
  · rename_i e; rw [e]; exact h.symm
  · rfl
set_option maxHeartbeats 8000000 in
theorem c_mkeys {e : Nat} {R sh H : Nat → Nat} (he : e < 2) (g140 : G.1 140 = some (MO th ta os hs ps rs)) (hR : RM T S G) (g157 : G.1 157 = some (YA 640 R)) (hRP : rowP S R) (hsh : ∀ j, j < 32 → R (32 * 11 + j) = sh j) (hH : ∀ j, j < 32 → R (32 * 13 + j) = H j)
    (hq : ∀ G' hs' NK, FP (fun j => PK j ∨ j = 172) G G' → RM T (sE S e (mkS T (ses (S.1 e) H) sh H (if e = 0 then 67 else 65))) G' → G'.1 140 = some (MO th ta os hs' ps rs) → G'.1 161 = some (YA 256 NK) → (∀ j, NK j < 256) → (∀ j, j < 32 → NK (128 * e + j) = kyH T sh H (rw9 (ses (S.1 e) H) 2) (if e = 0 then 65 else 67) j ∧ NK (128 * e + 32 + j) = kyH T sh H (rw9 (ses (S.1 e) H) 2) ((if e = 0 then 65 else 67) + 1) j) → Q (.inl none) G') : C K 0 0 mX12_makeKeys [.ref 140, .int (nI e)] G Q := by
  have f1 := hR.2.2.2.2.2.2.2.2.1.2.1
  have hHb : ∀ j, j < 32 → H j < 256 := fun j hj => by rw [← hH j hj]; exact hRP.1 _
  refine C_of okX12_makeKeys (Nat.le_of_ble_eq_true rfl) ?_
  refine V_iconst (v := nI 0) rfl (by decide) ?_
  refine V_istore_n rfl (by decide) ?_
  have t48 : ∀ (lc : kLo) (G2 : kG) (S2 : SG) (R2 : Nat → Nat), lc 0 = some (.ref 140) → lc 1 = some (.int (nI e)) → FP (fun j => j = 157) G G2 → RM T S2 G2 → G2.1 157 = some (YA 640 R2) → rowP S2 R2 → (∀ j, 32 * 8 ≤ j → R2 j = R j) → (∀ s', sE S2 e s' = sE S e s') → sfl (S2.1 e) 1 true = ses (S.1 e) H → (fun j => fl (S2.1 j) 1) = (fun j => fl (S.1 j) 1) → V K 0 0 mX12_makeKeys 48 lc [] G2 Q := by
    intro lc G2 S2 R2 l0 l1 F2 hR2 k157 hRP2 hRo hsE hses hf2
    have k140 := F2.get (by decide) g140
    have k172 := F2.get (by decide) f1
    refine V_aload_n rfl (by first | rfl | assumption) ?_
    refine V_getf rfl rfl rfl (by repeat (first | exact hup_eq | assumption | refine Eq.trans (hup_ne (by first | assumption | exact Ne.symm (by assumption) | decide | omega)) ?_)) (by first | rfl | assumption) ?_
    refine V_iload_n rfl (by first | rfl | assumption) ?_
    refine V_iconst (v := nI 1) rfl (by decide) ?_
    refine V_zastZ true rfl (by repeat (first | exact hup_eq | assumption | refine Eq.trans (hup_ne (by first | assumption | exact Ne.symm (by assumption) | decide | omega)) ?_)) (by decide) rfl (by first | omega | decide) (by first | omega | decide) ?_
    have hR3 := hR2.f1 (e := e) (b := true)
    rw [hf2, hses, hsE] at hR3
    have hRP3 : rowP (sE S e (ses (S.1 e) H)) R2 := by
      rw [← hsE, ← hses]
      refine ⟨hRP2.1, fun j hj => ⟨fun i hi => ?_, (hRP2.2 j hj).2⟩⟩
      rw [sE_rw (S := S2) (e := e) (s := sfl (S2.1 e) 1 true) rfl i]
      exact (hRP2.2 j hj).1 i hi
    refine V_mkeys (sh := sh) (H := H) he l0 l1 ((hup_ne (by decide)).trans k140) hR3 ((hup_ne (by decide)).trans k157) hRP3 (fun j hj => (hRo _ (by omega)).trans (hsh j hj)) (fun j hj => (hRo _ (by omega)).trans (hH j hj)) (fun G' hs' NK q1 q2 q3 q4 q5 q6 => ?_)
    rw [sE_sE, sE_e] at q2
    rw [sE_e] at q6
    refine hq G' hs' NK ?_ q2 q3 q4 q5 q6
    have F3 : FP (fun j => PK j ∨ j = 172) G G2 := F2.sub (fun x hx => Or.inl (by unfold PK PD; omega))
    exact (F3.hup (Or.inr rfl)).trans q1 (fun _ q => Or.inl q)
  cases hs1 : fl (S.1 e) 1 with
  | true =>
    refine V_iload_n rfl (by first | rfl | assumption) ?_
    refine V_bipush (v := nI 32) rfl (by decide) ?_
    refine V_icmp_geN rfl (by decide) (by decide) (fun h => absurd h (by decide)) (fun _ => ?_)
    refine V_aload_n rfl (by first | rfl | assumption) ?_
    refine V_getf rfl rfl rfl (by repeat (first | exact hup_eq | assumption | refine Eq.trans (hup_ne (by first | assumption | exact Ne.symm (by assumption) | decide | omega)) ?_)) (by first | rfl | assumption) ?_
    refine V_iload_n rfl (by first | rfl | assumption) ?_
    refine V_zaldZ rfl (by repeat (first | exact hup_eq | assumption | refine Eq.trans (hup_ne (by first | assumption | exact Ne.symm (by assumption) | decide | omega)) ?_)) rfl (by first | omega | decide) (by first | omega | decide) ?_
    refine V_if_neB rfl (fun _ => ?_) (fun h => by rw [hs1] at h; cases h)
    refine t48 _ G S R rfl rfl FP.rf hR g157 hRP (fun _ _ => rfl) (fun _ => rfl) ?_ rfl
    unfold ses sfl
    rw [if_pos hs1]
    show (up (S.1 e).1 1 true, (S.1 e).2) = S.1 e
    rw [up_same (f := (S.1 e).1) hs1]
  | false =>
    refine V_loop 32 (fun i lc G' => lc 0 = some (.ref 140) ∧ lc 1 = some (.int (nI e)) ∧ lc 2 = some (.int (nI i)) ∧ G' = hup G 157 (YA 640 (ovw R (32 * (4 + e)) i (fun k => R (32 * 13 + k))))) ?_ ?_ 0 _ _ (Nat.zero_le _) ⟨rfl, rfl, rfl, by rw [ovw_0, hup_same g157]⟩
    · rintro i lc G' hi ⟨l0, l1, l2, rfl⟩ ih
      refine V_iload_n rfl (by first | rfl | assumption) ?_
      refine V_bipush (v := nI 32) rfl (by decide) ?_
      refine V_icmp_geN rfl (by omega) (by decide) (fun h => absurd h (by omega)) (fun _ => ?_)
      refine V_aload_n rfl (by first | rfl | assumption) ?_
      refine V_getf rfl rfl rfl (by repeat (first | exact hup_eq | assumption | refine Eq.trans (hup_ne (by first | assumption | exact Ne.symm (by assumption) | decide | omega)) ?_)) (by first | rfl | assumption) ?_
      refine V_iload_n rfl (by first | rfl | assumption) ?_
      refine V_zaldZ rfl (by repeat (first | exact hup_eq | assumption | refine Eq.trans (hup_ne (by first | assumption | exact Ne.symm (by assumption) | decide | omega)) ?_)) rfl (by first | omega | decide) (by first | omega | decide) ?_
      refine V_if_neB rfl (fun h => by rw [hs1] at h; cases h) (fun _ => ?_)
      refine V_aload_n rfl (by first | rfl | assumption) ?_
      refine V_getf rfl rfl rfl (by repeat (first | exact hup_eq | assumption | refine Eq.trans (hup_ne (by first | assumption | exact Ne.symm (by assumption) | decide | omega)) ?_)) (by first | rfl | assumption) ?_
      refine V_iconst (v := nI 4) rfl (by decide) ?_
      refine V_iload_n rfl (by first | rfl | assumption) ?_
      refine V_iaddN rfl ?_
      refine V_callS (M' := mX12_row) (mc := 0) (ms := 0) (bc' := 0) (bs' := 0) rfl cw_X12_267 is_X12_row rfl (Nat.le_of_ble_eq_true rfl) ⟨Nat.le_of_ble_eq_true rfl, Nat.le_of_ble_eq_true rfl⟩ ⟨Nat.le_of_ble_eq_true rfl, Nat.le_of_ble_eq_true rfl⟩ (As := [.int (nI (4 + e))]) (c_mrow (Q := fun o G2 => o = .inl (some (.int (nI (32 * (4 + e))))) ∧ G2 = hup G 157 (YA 640 (ovw R (32 * (4 + e)) i (fun k => R (32 * 13 + k))))) ⟨rfl, rfl⟩) (fun o G2 h => ?_) (fun E G' h => by cases h.1)
      obtain ⟨h, rfl⟩ := h
      cases h
      refine V_iload_n rfl (by first | rfl | assumption) ?_
      refine V_iaddN rfl ?_
      refine V_aload_n rfl (by first | rfl | assumption) ?_
      refine V_getf rfl rfl rfl (by repeat (first | exact hup_eq | assumption | refine Eq.trans (hup_ne (by first | assumption | exact Ne.symm (by assumption) | decide | omega)) ?_)) (by first | rfl | assumption) ?_
      refine V_bipush (v := nI 13) rfl (by decide) ?_
      refine V_callS (M' := mX12_row) (mc := 0) (ms := 0) (bc' := 0) (bs' := 0) rfl cw_X12_267 is_X12_row rfl (Nat.le_of_ble_eq_true rfl) ⟨Nat.le_of_ble_eq_true rfl, Nat.le_of_ble_eq_true rfl⟩ ⟨Nat.le_of_ble_eq_true rfl, Nat.le_of_ble_eq_true rfl⟩ (As := [.int (nI 13)]) (c_mrow (Q := fun o G2 => o = .inl (some (.int (nI (32 * 13)))) ∧ G2 = hup G 157 (YA 640 (ovw R (32 * (4 + e)) i (fun k => R (32 * 13 + k))))) ⟨rfl, rfl⟩) (fun o G2 h => ?_) (fun E G' h => by cases h.1)
      obtain ⟨h, rfl⟩ := h
      cases h
      have eo : ovw R (32 * (4 + e)) i (fun k => R (32 * 13 + k)) (32 * 13 + i) = R (32 * 13 + i) := ovw_out (by omega)
      have hb := hRP.1 (32 * 13 + i)
      refine V_iload_n rfl (by first | rfl | assumption) ?_
      refine V_iaddN rfl ?_
      refine V_baldB rfl (by repeat (first | exact hup_eq | assumption | refine Eq.trans (hup_ne (by first | assumption | exact Ne.symm (by assumption) | decide | omega)) ?_)) rfl (by first | omega | decide) (by first | omega | decide) ?_
      rw [eo]
      refine V_bastB rfl (by repeat (first | exact hup_eq | assumption | refine Eq.trans (hup_ne (by first | assumption | exact Ne.symm (by assumption) | decide | omega)) ?_)) rfl (by first | omega | decide) (by first | omega | decide) (by first | assumption | solve_by_elim | exact Nat.mod_lt _ (by decide) | omega) ?_
      refine V_iincN (d := 1) rfl (by first | rfl | assumption) (by decide) (by decide) ?_
      refine V_goto rfl ?_
      rw [hup_hup, ovw_s' (g := fun k => R (32 * 13 + k)) (by rfl)]
      exact ih _ _ ⟨l0, l1, rfl, rfl⟩
    · rintro lc G' ⟨l0, l1, l2, rfl⟩
      refine V_iload_n rfl (by first | rfl | assumption) ?_
      refine V_bipush (v := nI 32) rfl (by decide) ?_
      refine V_icmp_geN rfl (by decide) (by decide) (fun _ => ?_) (fun h => absurd (Nat.le_refl _) h)
      have hRP2 : rowP (sE S e (srw (S.1 e) 2 H)) (ovw R (32 * (4 + e)) 32 (fun k => R (32 * 13 + k))) := by
        rw [ovw_congr (g' := H) hH]
        exact hRP.w2 he hHb
      refine t48 _ _ (sE S e (srw (S.1 e) 2 H)) _ l0 l1 (FP.rf.hup rfl) (hR.r157 (fun j _ _ h => hup_ne h) rwo_sE (fun i j hi => srw_o (by omega) j) ⟨_, hup_eq, hRP2⟩) hup_eq hRP2 (fun j hj => ovw_out (by omega)) (fun _ => sE_sE) ?_ (pj_same (S := S) (fun s => fl s 1) (e := e) (s := srw (S.1 e) 2 H) rfl)
      rw [sE_e]
      unfold ses
      rw [if_neg (by rw [hs1]; decide)]
end MWire3
