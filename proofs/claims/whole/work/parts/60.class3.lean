section CClass3
variable {K : kK} {G : kG} {Q : kO → kG → Prop}

theorem c_startAgreement {tp sp c1 c2 c3 s : Nat} {f1 f2 f3 : Nat → Nat} (g0 : G.1 0 = some (SWO tp sp)) (hh : hsr G) (h1 : Sg G c1 0 9 f1) (h2 : Sg G c2 0 9 f2) (h3 : Sg G c3 s 32 f3) (hc : 18 < c1 ∧ 18 < c2 ∧ 18 < c3) (hq : ∀ G', FP (fun j => j = 17 ∨ j = 18) G G' → HM G' (lst f1 9 ++ lst f2 9 ++ lst f3 32) → Q (.inl none) G') : C K 0 0 mX11_startAgreement [.ref 0, .ref c1, .ref c2, .ref c3, .int (nI s)] G Q := by
  have g14 := hh.1
  have FF : FP (fun j => j = 17 ∨ j = 18) G G := FP.rf
  refine C_of okX11_startAgreement (Nat.le_of_ble_eq_true rfl) ?_

  refine V_aload_n rfl (by first | rfl | assumption) ?_
  refine V_getf rfl rfl rfl (by repeat (first | exact hup_eq | assumption | refine Eq.trans (hup_ne (by first | assumption | exact Ne.symm (by assumption) | decide | omega)) ?_)) (by first | rfl | assumption) ?_
  refine V_callV (M' := mX3_start) (mc := 0) (ms := 0) (bc' := 0) (bs' := 0) rfl cw_X11_118 iv_X3_start (by repeat (first | exact hup_eq | assumption | refine Eq.trans (hup_ne (by first | assumption | exact Ne.symm (by assumption) | decide | omega)) ?_)) rfl rfl (Nat.le_of_ble_eq_true rfl) ⟨Nat.le_of_ble_eq_true rfl, Nat.le_of_ble_eq_true rfl⟩ ⟨Nat.le_of_ble_eq_true rfl, Nat.le_of_ble_eq_true rfl⟩ (As := []) (c_startL (Q := fun o G1 => o = .inl none ∧ FP (fun j => j = 17) G G1 ∧ HM G1 []) hh (fun G1 q0 q1 => ⟨rfl, q0, q1⟩)) (fun o G1 h => ?_) (fun E G' h => by cases h.1)
  obtain ⟨h0, F1, m1⟩ := h
  cases h0
  have g0 := F1.get (by omega) g0
  have h1 := h1.fp (F1.2 _ (by omega))
  have h2 := h2.fp (F1.2 _ (by omega))
  have h3 := h3.fp (F1.2 _ (by omega))
  have FF := FF.trans F1 (fun x hx => by omega)
  have g14 := m1.1
  refine V_aload_n rfl (by first | rfl | assumption) ?_
  refine V_getf rfl rfl rfl (by repeat (first | exact hup_eq | assumption | refine Eq.trans (hup_ne (by first | assumption | exact Ne.symm (by assumption) | decide | omega)) ?_)) (by first | rfl | assumption) ?_
  refine V_aload_n rfl (by first | rfl | assumption) ?_
  refine V_iconst (v := nI 0) rfl (by decide) ?_
  refine V_bipush (v := nI 9) rfl (by decide) ?_
  refine V_callV (M' := mX3_addRow) (mc := 0) (ms := 0) (bc' := 0) (bs' := 0) rfl cw_X11_121 iv_X3_addRow (by repeat (first | exact hup_eq | assumption | refine Eq.trans (hup_ne (by first | assumption | exact Ne.symm (by assumption) | decide | omega)) ?_)) rfl rfl (Nat.le_of_ble_eq_true rfl) ⟨Nat.le_of_ble_eq_true rfl, Nat.le_of_ble_eq_true rfl⟩ ⟨Nat.le_of_ble_eq_true rfl, Nat.le_of_ble_eq_true rfl⟩ (As := [.ref c1, .int (nI 0), .int (nI 9)]) (c_addSg (Q := fun o G2 => o = .inl none ∧ FP (fun j => j = 17 ∨ j = 18) G1 G2 ∧ HM G2 (lst f1 9)) m1 h1 (by decide) (fun G2 q0 q1 => ⟨rfl, q0, by rw [List.nil_append] at q1; exact q1⟩)) (fun o G2 h => ?_) (fun E G' h => by cases h.1)
  obtain ⟨h0, F2, m1⟩ := h
  cases h0
  have g0 := F2.get (by omega) g0
  have h1 := h1.fp (F2.2 _ (by omega))
  have h2 := h2.fp (F2.2 _ (by omega))
  have h3 := h3.fp (F2.2 _ (by omega))
  have FF := FF.trans F2 (fun x hx => by omega)
  have g14 := m1.1
  refine V_aload_n rfl (by first | rfl | assumption) ?_
  refine V_getf rfl rfl rfl (by repeat (first | exact hup_eq | assumption | refine Eq.trans (hup_ne (by first | assumption | exact Ne.symm (by assumption) | decide | omega)) ?_)) (by first | rfl | assumption) ?_
  refine V_aload_n rfl (by first | rfl | assumption) ?_
  refine V_iconst (v := nI 0) rfl (by decide) ?_
  refine V_bipush (v := nI 9) rfl (by decide) ?_
  refine V_callV (M' := mX3_addRow) (mc := 0) (ms := 0) (bc' := 0) (bs' := 0) rfl cw_X11_121 iv_X3_addRow (by repeat (first | exact hup_eq | assumption | refine Eq.trans (hup_ne (by first | assumption | exact Ne.symm (by assumption) | decide | omega)) ?_)) rfl rfl (Nat.le_of_ble_eq_true rfl) ⟨Nat.le_of_ble_eq_true rfl, Nat.le_of_ble_eq_true rfl⟩ ⟨Nat.le_of_ble_eq_true rfl, Nat.le_of_ble_eq_true rfl⟩ (As := [.ref c2, .int (nI 0), .int (nI 9)]) (c_addSg (Q := fun o G3 => o = .inl none ∧ FP (fun j => j = 17 ∨ j = 18) G2 G3 ∧ HM G3 (lst f1 9 ++ lst f2 9)) m1 h2 (by simp [lst_len]) (fun G3 q0 q1 => ⟨rfl, q0, q1⟩)) (fun o G3 h => ?_) (fun E G' h => by cases h.1)
  obtain ⟨h0, F3, m1⟩ := h
  cases h0
  have g0 := F3.get (by omega) g0
  have h1 := h1.fp (F3.2 _ (by omega))
  have h2 := h2.fp (F3.2 _ (by omega))
  have h3 := h3.fp (F3.2 _ (by omega))
  have FF := FF.trans F3 (fun x hx => by omega)
  have g14 := m1.1
  refine V_aload_n rfl (by first | rfl | assumption) ?_
  refine V_getf rfl rfl rfl (by repeat (first | exact hup_eq | assumption | refine Eq.trans (hup_ne (by first | assumption | exact Ne.symm (by assumption) | decide | omega)) ?_)) (by first | rfl | assumption) ?_
  refine V_aload_n rfl (by first | rfl | assumption) ?_
  refine V_iload rfl (by first | rfl | assumption) ?_
  refine V_bipush (v := nI 32) rfl (by decide) ?_
  refine V_callV (M' := mX3_addRow) (mc := 0) (ms := 0) (bc' := 0) (bs' := 0) rfl cw_X11_121 iv_X3_addRow (by repeat (first | exact hup_eq | assumption | refine Eq.trans (hup_ne (by first | assumption | exact Ne.symm (by assumption) | decide | omega)) ?_)) rfl rfl (Nat.le_of_ble_eq_true rfl) ⟨Nat.le_of_ble_eq_true rfl, Nat.le_of_ble_eq_true rfl⟩ ⟨Nat.le_of_ble_eq_true rfl, Nat.le_of_ble_eq_true rfl⟩ (As := [.ref c3, .int (nI s), .int (nI 32)]) (c_addSg (Q := fun o G4 => o = .inl none ∧ FP (fun j => j = 17 ∨ j = 18) G3 G4 ∧ HM G4 (lst f1 9 ++ lst f2 9 ++ lst f3 32)) m1 h3 (by simp [lst_len]) (fun G4 q0 q1 => ⟨rfl, q0, q1⟩)) (fun o G4 h => ?_) (fun E G' h => by cases h.1)
  obtain ⟨h0, F4, m1⟩ := h
  cases h0
  have g0 := F4.get (by omega) g0
  have h1 := h1.fp (F4.2 _ (by omega))
  have h2 := h2.fp (F4.2 _ (by omega))
  have h3 := h3.fp (F4.2 _ (by omega))
  have FF := FF.trans F4 (fun x hx => by omega)
  exact V_vret rfl rfl (hq _ FF m1)

theorem c_finishAgreement {tp sp : Nat} {sh o : Nat → Nat} {l : List Nat} {T : TB} (hT : tbl K T) (g0 : G.1 0 = some (SWO tp sp)) (m1 : HM G l) (hl : l.length ≤ 599) (h1 : Rb G 127 32 sh) (ga : G.1 128 = some (BA 32 o)) (hq : ∀ G', FP (fun j => (15 ≤ j ∧ j ≤ 18) ∨ j = 128) G G' → hsr G' → Rb G' 128 32 (hL T (l ++ lst sh 32)) → Q (.inl none) G') : C K 0 0 mX11_finishAgreement [.ref 0] G Q := by
  have g14 := m1.1
  have FF : FP (fun j => (15 ≤ j ∧ j ≤ 18) ∨ j = 128) G G := FP.rf
  refine C_of okX11_finishAgreement (Nat.le_of_ble_eq_true rfl) ?_

  refine V_aload_n rfl (by first | rfl | assumption) ?_
  refine V_getf rfl rfl rfl (by repeat (first | exact hup_eq | assumption | refine Eq.trans (hup_ne (by first | assumption | exact Ne.symm (by assumption) | decide | omega)) ?_)) (by first | rfl | assumption) ?_
  refine V_aload_n rfl (by first | rfl | assumption) ?_
  refine V_getf rfl rfl rfl (by repeat (first | exact hup_eq | assumption | refine Eq.trans (hup_ne (by first | assumption | exact Ne.symm (by assumption) | decide | omega)) ?_)) (by first | rfl | assumption) ?_
  refine V_iconst (v := nI 0) rfl (by decide) ?_
  refine V_bipush (v := nI 32) rfl (by decide) ?_
  refine V_callV (M' := mX3_addRow) (mc := 0) (ms := 0) (bc' := 0) (bs' := 0) rfl cw_X11_121 iv_X3_addRow (by repeat (first | exact hup_eq | assumption | refine Eq.trans (hup_ne (by first | assumption | exact Ne.symm (by assumption) | decide | omega)) ?_)) rfl rfl (Nat.le_of_ble_eq_true rfl) ⟨Nat.le_of_ble_eq_true rfl, Nat.le_of_ble_eq_true rfl⟩ ⟨Nat.le_of_ble_eq_true rfl, Nat.le_of_ble_eq_true rfl⟩ (As := [.ref 127, .int (nI 0), .int (nI 32)]) (c_addSg (Q := fun o G1 => o = .inl none ∧ FP (fun j => j = 17 ∨ j = 18) G G1 ∧ HM G1 (l ++ lst sh 32)) m1 (h1.sg (by decide)) (by omega) (fun G1 q0 q1 => ⟨rfl, q0, q1⟩)) (fun o G1 h => ?_) (fun E G' h => by cases h.1)
  obtain ⟨h0, F1, m1⟩ := h
  cases h0
  have g0 := F1.get (by omega) g0
  have ga := F1.get (by omega) ga
  have FF := FF.trans F1 (fun x hx => by omega)
  have g14 := m1.1
  refine V_aload_n rfl (by first | rfl | assumption) ?_
  refine V_getf rfl rfl rfl (by repeat (first | exact hup_eq | assumption | refine Eq.trans (hup_ne (by first | assumption | exact Ne.symm (by assumption) | decide | omega)) ?_)) (by first | rfl | assumption) ?_
  refine V_aload_n rfl (by first | rfl | assumption) ?_
  refine V_getf rfl rfl rfl (by repeat (first | exact hup_eq | assumption | refine Eq.trans (hup_ne (by first | assumption | exact Ne.symm (by assumption) | decide | omega)) ?_)) (by first | rfl | assumption) ?_
  refine V_callV (M' := mX3_finish) (mc := 0) (ms := 0) (bc' := 0) (bs' := 0) rfl cw_X11_125 iv_X3_finish (by repeat (first | exact hup_eq | assumption | refine Eq.trans (hup_ne (by first | assumption | exact Ne.symm (by assumption) | decide | omega)) ?_)) rfl rfl (Nat.le_of_ble_eq_true rfl) ⟨Nat.le_of_ble_eq_true rfl, Nat.le_of_ble_eq_true rfl⟩ ⟨Nat.le_of_ble_eq_true rfl, Nat.le_of_ble_eq_true rfl⟩ (As := [.ref 128]) (c_finishRb (T := T) (Q := fun o G2 => o = .inl none ∧ FP (fun j => (15 ≤ j ∧ j ≤ 18) ∨ j = 128) G1 G2 ∧ hsr G2 ∧ Rb G2 128 32 (hL T (l ++ lst sh 32))) hT m1 (by simp [lst_len]; omega) ga (by decide) (fun G2 q0 q1 q2 => ⟨rfl, q0, q1, q2⟩)) (fun o G2 h => ?_) (fun E G' h => by cases h.1)
  obtain ⟨h0, F2, hh, r1⟩ := h
  cases h0
  have g0 := F2.get (by omega) g0
  have FF := FF.trans F2 (fun x hx => by omega)
  exact V_vret rfl rfl (hq _ FF hh r1)

theorem c_makeProof {tp sp : Nat} {H p : Nat → Nat} {T : TB} (hT : tbl K T) (g0 : G.1 0 = some (SWO tp sp)) (hh : hsr G) (h1 : Rb G 129 32 p) (h2 : Rb G 128 32 H) (hq : ∀ G', FP (fun j => (15 ≤ j ∧ j ≤ 18) ∨ j = 129) G G' → hsr G' → Rb G' 129 32 (prf T p H) → Q (.inl none) G') : C K 0 0 mX11_makeProof [.ref 0] G Q := by
  have g14 := hh.1
  have FF : FP (fun j => (15 ≤ j ∧ j ≤ 18) ∨ j = 129) G G := FP.rf
  obtain ⟨p9, gp, -⟩ := id h1
  refine C_of okX11_makeProof (Nat.le_of_ble_eq_true rfl) ?_

  refine V_aload_n rfl (by first | rfl | assumption) ?_
  refine V_getf rfl rfl rfl (by repeat (first | exact hup_eq | assumption | refine Eq.trans (hup_ne (by first | assumption | exact Ne.symm (by assumption) | decide | omega)) ?_)) (by first | rfl | assumption) ?_
  refine V_callV (M' := mX3_start) (mc := 0) (ms := 0) (bc' := 0) (bs' := 0) rfl cw_X11_118 iv_X3_start (by repeat (first | exact hup_eq | assumption | refine Eq.trans (hup_ne (by first | assumption | exact Ne.symm (by assumption) | decide | omega)) ?_)) rfl rfl (Nat.le_of_ble_eq_true rfl) ⟨Nat.le_of_ble_eq_true rfl, Nat.le_of_ble_eq_true rfl⟩ ⟨Nat.le_of_ble_eq_true rfl, Nat.le_of_ble_eq_true rfl⟩ (As := []) (c_startL (Q := fun o G1 => o = .inl none ∧ FP (fun j => j = 17) G G1 ∧ HM G1 []) hh (fun G1 q0 q1 => ⟨rfl, q0, q1⟩)) (fun o G1 h => ?_) (fun E G' h => by cases h.1)
  obtain ⟨h0, F1, m1⟩ := h
  cases h0
  have g0 := F1.get (by omega) g0
  have gp := F1.get (by omega) gp
  have h1 := h1.fp (F1.2 _ (by omega))
  have h2 := h2.fp (F1.2 _ (by omega))
  have FF := FF.trans F1 (fun x hx => by omega)
  have g14 := m1.1
  refine V_aload_n rfl (by first | rfl | assumption) ?_
  refine V_getf rfl rfl rfl (by repeat (first | exact hup_eq | assumption | refine Eq.trans (hup_ne (by first | assumption | exact Ne.symm (by assumption) | decide | omega)) ?_)) (by first | rfl | assumption) ?_
  refine V_aload_n rfl (by first | rfl | assumption) ?_
  refine V_getf rfl rfl rfl (by repeat (first | exact hup_eq | assumption | refine Eq.trans (hup_ne (by first | assumption | exact Ne.symm (by assumption) | decide | omega)) ?_)) (by first | rfl | assumption) ?_
  refine V_iconst (v := nI 0) rfl (by decide) ?_
  refine V_bipush (v := nI 32) rfl (by decide) ?_
  refine V_callV (M' := mX3_addRow) (mc := 0) (ms := 0) (bc' := 0) (bs' := 0) rfl cw_X11_121 iv_X3_addRow (by repeat (first | exact hup_eq | assumption | refine Eq.trans (hup_ne (by first | assumption | exact Ne.symm (by assumption) | decide | omega)) ?_)) rfl rfl (Nat.le_of_ble_eq_true rfl) ⟨Nat.le_of_ble_eq_true rfl, Nat.le_of_ble_eq_true rfl⟩ ⟨Nat.le_of_ble_eq_true rfl, Nat.le_of_ble_eq_true rfl⟩ (As := [.ref 129, .int (nI 0), .int (nI 32)]) (c_addSg (Q := fun o G2 => o = .inl none ∧ FP (fun j => j = 17 ∨ j = 18) G1 G2 ∧ HM G2 (lst p 32)) m1 (h1.sg (by decide)) (by decide) (fun G2 q0 q1 => ⟨rfl, q0, by rw [List.nil_append] at q1; exact q1⟩)) (fun o G2 h => ?_) (fun E G' h => by cases h.1)
  obtain ⟨h0, F2, m1⟩ := h
  cases h0
  have g0 := F2.get (by omega) g0
  have gp := F2.get (by omega) gp
  have h1 := h1.fp (F2.2 _ (by omega))
  have h2 := h2.fp (F2.2 _ (by omega))
  have FF := FF.trans F2 (fun x hx => by omega)
  have g14 := m1.1
  refine V_aload_n rfl (by first | rfl | assumption) ?_
  refine V_getf rfl rfl rfl (by repeat (first | exact hup_eq | assumption | refine Eq.trans (hup_ne (by first | assumption | exact Ne.symm (by assumption) | decide | omega)) ?_)) (by first | rfl | assumption) ?_
  refine V_aload_n rfl (by first | rfl | assumption) ?_
  refine V_getf rfl rfl rfl (by repeat (first | exact hup_eq | assumption | refine Eq.trans (hup_ne (by first | assumption | exact Ne.symm (by assumption) | decide | omega)) ?_)) (by first | rfl | assumption) ?_
  refine V_iconst (v := nI 0) rfl (by decide) ?_
  refine V_bipush (v := nI 32) rfl (by decide) ?_
  refine V_callV (M' := mX3_addRow) (mc := 0) (ms := 0) (bc' := 0) (bs' := 0) rfl cw_X11_121 iv_X3_addRow (by repeat (first | exact hup_eq | assumption | refine Eq.trans (hup_ne (by first | assumption | exact Ne.symm (by assumption) | decide | omega)) ?_)) rfl rfl (Nat.le_of_ble_eq_true rfl) ⟨Nat.le_of_ble_eq_true rfl, Nat.le_of_ble_eq_true rfl⟩ ⟨Nat.le_of_ble_eq_true rfl, Nat.le_of_ble_eq_true rfl⟩ (As := [.ref 128, .int (nI 0), .int (nI 32)]) (c_addSg (Q := fun o G3 => o = .inl none ∧ FP (fun j => j = 17 ∨ j = 18) G2 G3 ∧ HM G3 (lst p 32 ++ lst H 32)) m1 (h2.sg (by decide)) (by simp [lst_len]) (fun G3 q0 q1 => ⟨rfl, q0, q1⟩)) (fun o G3 h => ?_) (fun E G' h => by cases h.1)
  obtain ⟨h0, F3, m1⟩ := h
  cases h0
  have g0 := F3.get (by omega) g0
  have gp := F3.get (by omega) gp
  have h1 := h1.fp (F3.2 _ (by omega))
  have h2 := h2.fp (F3.2 _ (by omega))
  have FF := FF.trans F3 (fun x hx => by omega)
  have g14 := m1.1
  refine V_aload_n rfl (by first | rfl | assumption) ?_
  refine V_getf rfl rfl rfl (by repeat (first | exact hup_eq | assumption | refine Eq.trans (hup_ne (by first | assumption | exact Ne.symm (by assumption) | decide | omega)) ?_)) (by first | rfl | assumption) ?_
  refine V_aload_n rfl (by first | rfl | assumption) ?_
  refine V_getf rfl rfl rfl (by repeat (first | exact hup_eq | assumption | refine Eq.trans (hup_ne (by first | assumption | exact Ne.symm (by assumption) | decide | omega)) ?_)) (by first | rfl | assumption) ?_
  refine V_callV (M' := mX3_finish) (mc := 0) (ms := 0) (bc' := 0) (bs' := 0) rfl cw_X11_125 iv_X3_finish (by repeat (first | exact hup_eq | assumption | refine Eq.trans (hup_ne (by first | assumption | exact Ne.symm (by assumption) | decide | omega)) ?_)) rfl rfl (Nat.le_of_ble_eq_true rfl) ⟨Nat.le_of_ble_eq_true rfl, Nat.le_of_ble_eq_true rfl⟩ ⟨Nat.le_of_ble_eq_true rfl, Nat.le_of_ble_eq_true rfl⟩ (As := [.ref 129]) (c_finishRb (T := T) (Q := fun o G4 => o = .inl none ∧ FP (fun j => (15 ≤ j ∧ j ≤ 18) ∨ j = 129) G3 G4 ∧ hsr G4 ∧ Rb G4 129 32 (prf T p H)) hT m1 (by simp [lst_len]) gp (by decide) (fun G4 q0 q1 q2 => ⟨rfl, q0, q1, q2⟩)) (fun o G4 h => ?_) (fun E G' h => by cases h.1)
  obtain ⟨h0, F4, hh, r1⟩ := h
  cases h0
  have g0 := F4.get (by omega) g0
  have h2 := h2.fp (F4.2 _ (by omega))
  have FF := FF.trans F4 (fun x hx => by omega)
  exact V_vret rfl rfl (hq _ FF hh r1)

theorem c_makeKey {tp sp kc sc mark : Nat} {sh H ss o : Nat → Nat} {T : TB} (hT : tbl K T) (g0 : G.1 0 = some (SWO tp sp)) (hh : hsr G) (h1 : Rb G 127 32 sh) (h2 : Rb G 128 32 H) (h3 : Rb G sc 32 ss) (gk : G.1 kc = some (BA 32 o)) (hk : 18 < kc ∧ 18 < sc ∧ mark < 256) (hq : ∀ G', FP (fun j => (15 ≤ j ∧ j ≤ 18) ∨ j = kc) G G' → hsr G' → Rb G' kc 32 (kyH T sh H ss mark) → Q (.inl none) G') : C K 0 0 mX11_makeKey [.ref 0, .ref kc, .int (nI mark), .ref sc] G Q := by
  have g14 := hh.1
  have FF : FP (fun j => (15 ≤ j ∧ j ≤ 18) ∨ j = kc) G G := FP.rf
  refine C_of okX11_makeKey (Nat.le_of_ble_eq_true rfl) ?_

  refine V_aload_n rfl (by first | rfl | assumption) ?_
  refine V_getf rfl rfl rfl (by repeat (first | exact hup_eq | assumption | refine Eq.trans (hup_ne (by first | assumption | exact Ne.symm (by assumption) | decide | omega)) ?_)) (by first | rfl | assumption) ?_
  refine V_callV (M' := mX3_start) (mc := 0) (ms := 0) (bc' := 0) (bs' := 0) rfl cw_X11_118 iv_X3_start (by repeat (first | exact hup_eq | assumption | refine Eq.trans (hup_ne (by first | assumption | exact Ne.symm (by assumption) | decide | omega)) ?_)) rfl rfl (Nat.le_of_ble_eq_true rfl) ⟨Nat.le_of_ble_eq_true rfl, Nat.le_of_ble_eq_true rfl⟩ ⟨Nat.le_of_ble_eq_true rfl, Nat.le_of_ble_eq_true rfl⟩ (As := []) (c_startL (Q := fun o G1 => o = .inl none ∧ FP (fun j => j = 17) G G1 ∧ HM G1 []) hh (fun G1 q0 q1 => ⟨rfl, q0, q1⟩)) (fun o G1 h => ?_) (fun E G' h => by cases h.1)
  obtain ⟨h0, F1, m1⟩ := h
  cases h0
  have g0 := F1.get (by omega) g0
  have gk := F1.get (by omega) gk
  have h1 := h1.fp (F1.2 _ (by omega))
  have h2 := h2.fp (F1.2 _ (by omega))
  have h3 := h3.fp (F1.2 _ (by omega))
  have FF := FF.trans F1 (fun x hx => by omega)
  have g14 := m1.1
  refine V_aload_n rfl (by first | rfl | assumption) ?_
  refine V_getf rfl rfl rfl (by repeat (first | exact hup_eq | assumption | refine Eq.trans (hup_ne (by first | assumption | exact Ne.symm (by assumption) | decide | omega)) ?_)) (by first | rfl | assumption) ?_
  refine V_aload_n rfl (by first | rfl | assumption) ?_
  refine V_getf rfl rfl rfl (by repeat (first | exact hup_eq | assumption | refine Eq.trans (hup_ne (by first | assumption | exact Ne.symm (by assumption) | decide | omega)) ?_)) (by first | rfl | assumption) ?_
  refine V_iconst (v := nI 0) rfl (by decide) ?_
  refine V_bipush (v := nI 32) rfl (by decide) ?_
  refine V_callV (M' := mX3_addRow) (mc := 0) (ms := 0) (bc' := 0) (bs' := 0) rfl cw_X11_121 iv_X3_addRow (by repeat (first | exact hup_eq | assumption | refine Eq.trans (hup_ne (by first | assumption | exact Ne.symm (by assumption) | decide | omega)) ?_)) rfl rfl (Nat.le_of_ble_eq_true rfl) ⟨Nat.le_of_ble_eq_true rfl, Nat.le_of_ble_eq_true rfl⟩ ⟨Nat.le_of_ble_eq_true rfl, Nat.le_of_ble_eq_true rfl⟩ (As := [.ref 127, .int (nI 0), .int (nI 32)]) (c_addSg (Q := fun o G2 => o = .inl none ∧ FP (fun j => j = 17 ∨ j = 18) G1 G2 ∧ HM G2 (lst sh 32)) m1 (h1.sg (by decide)) (by decide) (fun G2 q0 q1 => ⟨rfl, q0, by rw [List.nil_append] at q1; exact q1⟩)) (fun o G2 h => ?_) (fun E G' h => by cases h.1)
  obtain ⟨h0, F2, m1⟩ := h
  cases h0
  have g0 := F2.get (by omega) g0
  have gk := F2.get (by omega) gk
  have h1 := h1.fp (F2.2 _ (by omega))
  have h2 := h2.fp (F2.2 _ (by omega))
  have h3 := h3.fp (F2.2 _ (by omega))
  have FF := FF.trans F2 (fun x hx => by omega)
  have g14 := m1.1
  refine V_aload_n rfl (by first | rfl | assumption) ?_
  refine V_getf rfl rfl rfl (by repeat (first | exact hup_eq | assumption | refine Eq.trans (hup_ne (by first | assumption | exact Ne.symm (by assumption) | decide | omega)) ?_)) (by first | rfl | assumption) ?_
  refine V_aload_n rfl (by first | rfl | assumption) ?_
  refine V_getf rfl rfl rfl (by repeat (first | exact hup_eq | assumption | refine Eq.trans (hup_ne (by first | assumption | exact Ne.symm (by assumption) | decide | omega)) ?_)) (by first | rfl | assumption) ?_
  refine V_iconst (v := nI 0) rfl (by decide) ?_
  refine V_bipush (v := nI 32) rfl (by decide) ?_
  refine V_callV (M' := mX3_addRow) (mc := 0) (ms := 0) (bc' := 0) (bs' := 0) rfl cw_X11_121 iv_X3_addRow (by repeat (first | exact hup_eq | assumption | refine Eq.trans (hup_ne (by first | assumption | exact Ne.symm (by assumption) | decide | omega)) ?_)) rfl rfl (Nat.le_of_ble_eq_true rfl) ⟨Nat.le_of_ble_eq_true rfl, Nat.le_of_ble_eq_true rfl⟩ ⟨Nat.le_of_ble_eq_true rfl, Nat.le_of_ble_eq_true rfl⟩ (As := [.ref 128, .int (nI 0), .int (nI 32)]) (c_addSg (Q := fun o G3 => o = .inl none ∧ FP (fun j => j = 17 ∨ j = 18) G2 G3 ∧ HM G3 (lst sh 32 ++ lst H 32)) m1 (h2.sg (by decide)) (by simp [lst_len]) (fun G3 q0 q1 => ⟨rfl, q0, q1⟩)) (fun o G3 h => ?_) (fun E G' h => by cases h.1)
  obtain ⟨h0, F3, m1⟩ := h
  cases h0
  have g0 := F3.get (by omega) g0
  have gk := F3.get (by omega) gk
  have h1 := h1.fp (F3.2 _ (by omega))
  have h2 := h2.fp (F3.2 _ (by omega))
  have h3 := h3.fp (F3.2 _ (by omega))
  have FF := FF.trans F3 (fun x hx => by omega)
  have g14 := m1.1
  refine V_aload_n rfl (by first | rfl | assumption) ?_
  refine V_getf rfl rfl rfl (by repeat (first | exact hup_eq | assumption | refine Eq.trans (hup_ne (by first | assumption | exact Ne.symm (by assumption) | decide | omega)) ?_)) (by first | rfl | assumption) ?_
  refine V_iload_n rfl (by first | rfl | assumption) ?_
  refine V_callV (M' := mX3_add) (mc := 0) (ms := 0) (bc' := 0) (bs' := 0) rfl cw_X11_363 iv_X3_add (by repeat (first | exact hup_eq | assumption | refine Eq.trans (hup_ne (by first | assumption | exact Ne.symm (by assumption) | decide | omega)) ?_)) rfl rfl (Nat.le_of_ble_eq_true rfl) ⟨Nat.le_of_ble_eq_true rfl, Nat.le_of_ble_eq_true rfl⟩ ⟨Nat.le_of_ble_eq_true rfl, Nat.le_of_ble_eq_true rfl⟩ (As := [.int (nI mark)]) (c_addL (Q := fun o G4 => o = .inl none ∧ FP (fun j => j = 17 ∨ j = 18) G3 G4 ∧ HM G4 (lst sh 32 ++ lst H 32 ++ [mark])) m1 (by omega) (by simp [lst_len]) (fun G4 q0 q1 => ⟨rfl, q0, q1⟩)) (fun o G4 h => ?_) (fun E G' h => by cases h.1)
  obtain ⟨h0, F4, m1⟩ := h
  cases h0
  have g0 := F4.get (by omega) g0
  have gk := F4.get (by omega) gk
  have h1 := h1.fp (F4.2 _ (by omega))
  have h2 := h2.fp (F4.2 _ (by omega))
  have h3 := h3.fp (F4.2 _ (by omega))
  have FF := FF.trans F4 (fun x hx => by omega)
  have g14 := m1.1
  refine V_aload_n rfl (by first | rfl | assumption) ?_
  refine V_getf rfl rfl rfl (by repeat (first | exact hup_eq | assumption | refine Eq.trans (hup_ne (by first | assumption | exact Ne.symm (by assumption) | decide | omega)) ?_)) (by first | rfl | assumption) ?_
  refine V_aload_n rfl (by first | rfl | assumption) ?_
  refine V_iconst (v := nI 0) rfl (by decide) ?_
  refine V_bipush (v := nI 32) rfl (by decide) ?_
  refine V_callV (M' := mX3_addRow) (mc := 0) (ms := 0) (bc' := 0) (bs' := 0) rfl cw_X11_121 iv_X3_addRow (by repeat (first | exact hup_eq | assumption | refine Eq.trans (hup_ne (by first | assumption | exact Ne.symm (by assumption) | decide | omega)) ?_)) rfl rfl (Nat.le_of_ble_eq_true rfl) ⟨Nat.le_of_ble_eq_true rfl, Nat.le_of_ble_eq_true rfl⟩ ⟨Nat.le_of_ble_eq_true rfl, Nat.le_of_ble_eq_true rfl⟩ (As := [.ref sc, .int (nI 0), .int (nI 32)]) (c_addSg (Q := fun o G5 => o = .inl none ∧ FP (fun j => j = 17 ∨ j = 18) G4 G5 ∧ HM G5 (lst sh 32 ++ lst H 32 ++ [mark] ++ lst ss 32)) m1 (h3.sg (by decide)) (by simp [lst_len]) (fun G5 q0 q1 => ⟨rfl, q0, q1⟩)) (fun o G5 h => ?_) (fun E G' h => by cases h.1)
  obtain ⟨h0, F5, m1⟩ := h
  cases h0
  have g0 := F5.get (by omega) g0
  have gk := F5.get (by omega) gk
  have h1 := h1.fp (F5.2 _ (by omega))
  have h2 := h2.fp (F5.2 _ (by omega))
  have h3 := h3.fp (F5.2 _ (by omega))
  have FF := FF.trans F5 (fun x hx => by omega)
  have g14 := m1.1
  refine V_aload_n rfl (by first | rfl | assumption) ?_
  refine V_getf rfl rfl rfl (by repeat (first | exact hup_eq | assumption | refine Eq.trans (hup_ne (by first | assumption | exact Ne.symm (by assumption) | decide | omega)) ?_)) (by first | rfl | assumption) ?_
  refine V_aload_n rfl (by first | rfl | assumption) ?_
  refine V_callV (M' := mX3_finish) (mc := 0) (ms := 0) (bc' := 0) (bs' := 0) rfl cw_X11_125 iv_X3_finish (by repeat (first | exact hup_eq | assumption | refine Eq.trans (hup_ne (by first | assumption | exact Ne.symm (by assumption) | decide | omega)) ?_)) rfl rfl (Nat.le_of_ble_eq_true rfl) ⟨Nat.le_of_ble_eq_true rfl, Nat.le_of_ble_eq_true rfl⟩ ⟨Nat.le_of_ble_eq_true rfl, Nat.le_of_ble_eq_true rfl⟩ (As := [.ref kc]) (c_finishRb (T := T) (Q := fun o G6 => o = .inl none ∧ FP (fun j => (15 ≤ j ∧ j ≤ 18) ∨ j = kc) G5 G6 ∧ hsr G6 ∧ Rb G6 kc 32 (kyH T sh H ss mark)) hT m1 (by simp [lst_len]) gk (by omega) (fun G6 q0 q1 q2 => ⟨rfl, q0, q1, q2⟩)) (fun o G6 h => ?_) (fun E G' h => by cases h.1)
  obtain ⟨h0, F6, hh, r1⟩ := h
  cases h0
  have g0 := F6.get (by omega) g0
  have FF := FF.trans F6 (fun x hx => by omega)
  exact V_vret rfl rfl (hq _ FF hh r1)

/-- the secret of an end is taken, and its public row made -/
theorem c_takeSecret0 {E tp sp : Nat} {s : ES} {f y9 p9 : Nat → Nat} {a b c d e : Bool} {T : TB} (hT : tbl K T) (g0 : G.1 0 = some (SWO tp sp)) (x1 : G.1 E = some (ENO E s)) (k1 : G.1 (E + 38) = some (XO E a b c d e)) (x2 : Rb G (E + 1) 32 f) (y1 : G.1 (E + 41) = some (BA 32 y9)) (p1 : G.1 (E + 42) = some (BA 32 p9)) (hcr : crv G) (hE : 18 < E) (hq : ∀ G', FP (fun j => (2 ≤ j ∧ j ≤ 13) ∨ j = E + 41 ∨ j = E + 42) G G' → crv G' → Rb G' (E + 41) 32 f → Rb G' (E + 42) 32 (mulB f nine) → Q (.inl none) G') : C K 0 0 mX11_takeSecret [.ref 0, .ref E] G Q := by
  obtain ⟨s9, s1, s2, s3⟩ := id x2
  have g1 := hcr.1
  refine C_of okX11_takeSecret (Nat.le_of_ble_eq_true rfl) ?_
  refine V_aload_n rfl (by first | rfl | assumption) ?_
  refine V_getf rfl rfl rfl (by repeat (first | exact hup_eq | assumption | refine Eq.trans (hup_ne (by first | assumption | exact Ne.symm (by assumption) | decide | omega)) ?_)) (by first | rfl | assumption) ?_
  refine V_iconst (v := nI 0) rfl (by decide) ?_
  refine V_aload_n rfl (by first | rfl | assumption) ?_
  refine V_getf rfl rfl rfl (by repeat (first | exact hup_eq | assumption | refine Eq.trans (hup_ne (by first | assumption | exact Ne.symm (by assumption) | decide | omega)) ?_)) (by first | rfl | assumption) ?_
  refine V_getf rfl rfl rfl (by repeat (first | exact hup_eq | assumption | refine Eq.trans (hup_ne (by first | assumption | exact Ne.symm (by assumption) | decide | omega)) ?_)) (by first | rfl | assumption) ?_
  refine V_iconst (v := nI 0) rfl (by decide) ?_
  refine V_bipush (v := nI 32) rfl (by decide) ?_
  refine V_copyi (st := []) rfl ⟨kk_X11_108, k_ac⟩ s1 y1 (by decide) (by decide) (by decide) (by decide) (by decide) (by decide) (by decide) ?_
  rw [show (nI 0).toNatClampNeg = 0 by decide, show (nI 32).toNatClampNeg = 32 by decide, cpyB]
  obtain ⟨G0, hG0⟩ : ∃ G0, G0 = hup G (E + 41) (BA 32 (fun j => if j < 32 then s9 j else y9 j)) := ⟨_, rfl⟩
  have F0 : FP (fun j => j = E + 41) G G0 := by rw [hG0]; exact FP.rf.hup rfl
  have r41 : Rb G0 (E + 41) 32 f := ⟨_, by rw [hG0]; exact hup_eq, fun j hj => by rw [if_pos hj]; exact s2 j hj, s3⟩
  show V K 0 0 _ _ _ _ (hup G (E + 41) (BA 32 (fun j => if j < 32 then s9 j else y9 j))) Q
  rw [← hG0]
  clear hG0
  have g0 := F0.get (by omega) g0
  have x1 := F0.get (by omega) x1
  have k1 := F0.get (by omega) k1
  have p1 := F0.get (by omega) p1
  have hcr := hcr.fp (fun j a c => F0.2 j (by omega))
  have g1 := hcr.1

  refine V_aload_n rfl (by first | rfl | assumption) ?_
  refine V_getf rfl rfl rfl (by repeat (first | exact hup_eq | assumption | refine Eq.trans (hup_ne (by first | assumption | exact Ne.symm (by assumption) | decide | omega)) ?_)) (by first | rfl | assumption) ?_
  refine V_aload_n rfl (by first | rfl | assumption) ?_
  refine V_getf rfl rfl rfl (by repeat (first | exact hup_eq | assumption | refine Eq.trans (hup_ne (by first | assumption | exact Ne.symm (by assumption) | decide | omega)) ?_)) (by first | rfl | assumption) ?_
  refine V_getf rfl rfl rfl (by repeat (first | exact hup_eq | assumption | refine Eq.trans (hup_ne (by first | assumption | exact Ne.symm (by assumption) | decide | omega)) ?_)) (by first | rfl | assumption) ?_
  refine V_gets (j := 0) rfl rfl ks_X11_324 ?_
  refine V_iconst (v := nI 0) rfl (by decide) ?_
  refine V_aload_n rfl (by first | rfl | assumption) ?_
  refine V_getf rfl rfl rfl (by repeat (first | exact hup_eq | assumption | refine Eq.trans (hup_ne (by first | assumption | exact Ne.symm (by assumption) | decide | omega)) ?_)) (by first | rfl | assumption) ?_
  refine V_getf rfl rfl rfl (by repeat (first | exact hup_eq | assumption | refine Eq.trans (hup_ne (by first | assumption | exact Ne.symm (by assumption) | decide | omega)) ?_)) (by first | rfl | assumption) ?_
  refine V_callV (M' := mX0_times) (mc := 0) (ms := 0) (bc' := 0) (bs' := 0) rfl cw_X11_114 iv_X0_times (by repeat (first | exact hup_eq | assumption | refine Eq.trans (hup_ne (by first | assumption | exact Ne.symm (by assumption) | decide | omega)) ?_)) rfl rfl (Nat.le_of_ble_eq_true rfl) ⟨Nat.le_of_ble_eq_true rfl, Nat.le_of_ble_eq_true rfl⟩ ⟨Nat.le_of_ble_eq_true rfl, Nat.le_of_ble_eq_true rfl⟩ (As := [.ref (E + 41), .ref 1000000, .int (nI 0), .ref (E + 42)]) (c_timesN (T := T) (k := f) (Q := fun o G1 => o = .inl none ∧ FP (fun j => (2 ≤ j ∧ j ≤ 13) ∨ j = E + 42) G0 G1 ∧ crv G1 ∧ Rb G1 (E + 42) 32 (mulB f nine)) hT hcr (r41.sg (by decide)) p1 (by omega) (fun G1 q0 q1 q2 => ⟨rfl, q0, q1, q2⟩)) (fun o G1 h => ?_) (fun E G' h => by cases h.1)
  obtain ⟨h0, F1, hcr, r42⟩ := h
  cases h0
  have r41 := r41.fp (F1.2 _ (by omega))
  exact V_vret rfl rfl (hq _ ((F0.sub (P' := fun j => (2 ≤ j ∧ j ≤ 13) ∨ j = E + 41 ∨ j = E + 42) (fun x hx => by omega)).trans F1 (fun x hx => by omega)) hcr r41 r42)

theorem c_takeSecret {e : Nat} {S : SG} {T : TB} (he : e < 2) (hT : tbl K T) (h : RC S G) (hq : ∀ G', FP (fun j => (2 ≤ j ∧ j ≤ 13) ∨ j = EB e + 41 ∨ j = EB e + 42) G G' → crv G' → Rb G' (EB e + 41) 32 (rw9 (S.1 e) 0) → Rb G' (EB e + 42) 32 (mulB (rw9 (S.1 e) 0) nine) → Q (.inl none) G') : C K 0 0 mX11_takeSecret [.ref 0, .ref (EB e)] G Q := by
  obtain ⟨tp, sp, g0⟩ := h.sw
  have hEe : EB e = 32 + 46 * e := rfl
  obtain ⟨x1, x2, -, -, -, -, -, k1, -, -, ⟨y9, y1, -⟩, ⟨f, ⟨p9, p1, -⟩, -⟩, -⟩ := h.2 e he
  exact c_takeSecret0 hT g0 x1 k1 x2 y1 p1 h.1.1 (by omega) hq

end CClass3
