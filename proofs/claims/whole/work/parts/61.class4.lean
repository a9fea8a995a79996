section CClass4
variable {K : kK} {G : kG} {Q : kO → kG → Prop}
theorem tnk_f {T : TB} {s : ES} {sh H : Nat → Nat} {sm cm : Nat} : ∃ s1, s1 = (if fl s 1 then s else sfl (srw s 2 H) 1 true) ∧ tnk T s sh H sm cm = sfl (sfl (srw (srw (srw (srw s1 6 (kyH T sh H (rw9 s1 2) sm)) 7 (kyH T sh H (rw9 s1 2) (sm + 1))) 10 (kyH T sh H (rw9 s1 2) cm)) 11 (kyH T sh H (rw9 s1 2) (cm + 1))) 5 true) 6 true := ⟨_, rfl, rfl⟩

set_option maxHeartbeats 16000000 in
theorem c_turnToNewKeys {e sm cm : Nat} {S : SG} {sh H : Nat → Nat} {T : TB} (he : e < 2) (hT : tbl K T) (h : RC S G) (h1 : Rb G 127 32 sh) (h2 : Rb G 128 32 H) (hm : sm < 255 ∧ cm < 255) (hq : ∀ G', FP (fun j => (15 ≤ j ∧ j ≤ 18) ∨ (32 ≤ j ∧ j ≤ 123)) G G' → RC (sE S e (tnk T (S.1 e) sh H sm cm)) G' → Q (.inl none) G') : C K 0 0 mX11_turnToNewKeys [.ref 0, .ref (EB e), .int (nI sm), .int (nI cm)] G Q := by
  obtain ⟨tp, sp, g0⟩ := h.sw
  have hEe : EB e = 32 + 46 * e := rfl
  obtain ⟨x1, x2, x3, ⟨ss9, ss1, ss2, ss3⟩, x5, x6, ⟨⟨y1, y2, y3⟩, y4, y5, y6⟩, k1, k2, k3, k4, ⟨pf, k5, k5'⟩, ⟨mk, k6, k6'⟩, k7, k8⟩ := h.2 e he
  obtain ⟨s1, hs1, htn⟩ := tnk_f (T := T) (s := S.1 e) (sh := sh) (H := H) (sm := sm) (cm := cm)
  rw [htn] at hq
  clear htn
  obtain ⟨y2b, y2c, -⟩ := id y2
  obtain ⟨y3b, y3c, -⟩ := id y3
  obtain ⟨k7b, k7c, -⟩ := id k7
  obtain ⟨k8b, k8c, -⟩ := id k8
  have f1 : ∀ k, k ≠ 1 → fl s1 k = fl (S.1 e) k := fun k hk => by
    rw [hs1]
    split
    · rfl
    · exact up_ne hk
  have r1 : ∀ k, k ≠ 2 → rw9 s1 k = rw9 (S.1 e) k := fun k hk => by
    rw [hs1]
    split
    · rfl
    · exact up_ne hk
  have n1 : nm s1 = nm (S.1 e) ∧ un s1 = un (S.1 e) ∧ gt s1 = gt (S.1 e) ∧ wi s1 = wi (S.1 e) := by
    rw [hs1]
    split
    · exact ⟨rfl, rfl, rfl, rfl⟩
    · exact ⟨rfl, rfl, rfl, rfl⟩
  have hh := h.1.2.1
  refine C_of okX11_turnToNewKeys (Nat.le_of_ble_eq_true rfl) ?_
  /- from the session on -/
  have go : ∀ (lc : kLo) (G0 : kG), lc 0 = some (.ref 0) → lc 1 = some (.ref (EB e)) → lc 2 = some (.int (nI sm)) → lc 3 = some (.int (nI cm)) → FP (fun j => j = EB e ∨ j = EB e + 3) G G0 → G0.1 (EB e) = some (ENO (EB e) s1) → Rb G0 (EB e + 3) 32 (rw9 s1 2) → V K 0 0 mX11_turnToNewKeys 27 lc [] G0 Q := by
    intro lc G0 l0 l1 l2 l3 F0 e0 es
    have g0 := F0.get (by omega) g0
    have k1 := F0.get (by omega) k1
    have k6 := F0.get (by omega) k6
    have y1 := F0.get (by omega) y1
    have y2c := F0.get (by omega) y2c
    have y3c := F0.get (by omega) y3c
    have k7c := F0.get (by omega) k7c
    have k8c := F0.get (by omega) k8c
    have h1 := h1.fp (F0.2 _ (by omega))
    have h2 := h2.fp (F0.2 _ (by omega))
    have hh := hh.fp (fun j a c => F0.2 j (by omega))
    refine V_aload_n rfl (by first | rfl | assumption) ?_
    refine V_getf rfl rfl rfl (by repeat (first | exact hup_eq | assumption | refine Eq.trans (hup_ne (by first | assumption | exact Ne.symm (by assumption) | decide | omega)) ?_)) (by first | rfl | assumption) ?_
    refine V_iconst (v := nI 1) rfl (by decide) ?_
    refine V_putf rfl rfl rfl rfl (by repeat (first | exact hup_eq | assumption | refine Eq.trans (hup_ne (by first | assumption | exact Ne.symm (by assumption) | decide | omega)) ?_)) (Nat.le_of_ble_eq_true rfl) (by first | exact ⟨rfl, rfl⟩ | (constructor <;> decide)) ?_
    show V K 0 0 _ _ _ _ (hup G0 (EB e + 38) (XO (EB e) (fl (S.1 e) 2) (fl (S.1 e) 3) (fl (S.1 e) 4) (fl (S.1 e) 8) true)) Q
    obtain ⟨G1, hG1⟩ : ∃ G1, G1 = hup G0 (EB e + 38) (XO (EB e) (fl (S.1 e) 2) (fl (S.1 e) 3) (fl (S.1 e) 4) (fl (S.1 e) 8) true) := ⟨_, rfl⟩
    rw [← hG1]
    have F1 : FP (fun j => j = EB e + 38) G0 G1 := by rw [hG1]; exact FP.rf.hup rfl
    have i38 : G1.1 (EB e + 38) = some (XO (EB e) (fl (S.1 e) 2) (fl (S.1 e) 3) (fl (S.1 e) 4) (fl (S.1 e) 8) true) := by rw [hG1]; exact hup_eq
    clear hG1
    have FF : FP (fun j => (15 ≤ j ∧ j ≤ 18) ∨ j = EB e ∨ j = EB e + 3 ∨ j = EB e + 38) G G1 := (F0.sub (P' := fun j => (15 ≤ j ∧ j ≤ 18) ∨ j = EB e ∨ j = EB e + 3 ∨ j = EB e + 38) (fun x hx => by omega)).trans F1 (fun x hx => by omega)
    have FA : FP (fun j => (15 ≤ j ∧ j ≤ 18) ∨ j = EB e ∨ j = EB e + 3 ∨ j = EB e + 38 ∨ (EB e + 32 ≤ j ∧ j ≤ EB e + 34) ∨ (EB e + 43 ≤ j ∧ j ≤ EB e + 45)) G G1 := FF.sub (fun x hx => by omega)

    have g0 := F1.get (by omega) g0
    have e0 := F1.get (by omega) e0
    have y1 := F1.get (by omega) y1
    have k6 := F1.get (by omega) k6
    have y2c := F1.get (by omega) y2c
    have y3c := F1.get (by omega) y3c
    have k7c := F1.get (by omega) k7c
    have k8c := F1.get (by omega) k8c
    have h1 := h1.fp (F1.2 _ (by omega))
    have h2 := h2.fp (F1.2 _ (by omega))
    have es := es.fp (F1.2 _ (by omega))
    have hh := hh.fp (fun j a c => F1.2 j (by omega))
    refine V_aload_n rfl (by first | rfl | assumption) ?_
    refine V_aload_n rfl (by first | rfl | assumption) ?_
    refine V_getf rfl rfl rfl (by repeat (first | exact hup_eq | assumption | refine Eq.trans (hup_ne (by first | assumption | exact Ne.symm (by assumption) | decide | omega)) ?_)) (by first | rfl | assumption) ?_
    refine V_getf rfl rfl rfl (by repeat (first | exact hup_eq | assumption | refine Eq.trans (hup_ne (by first | assumption | exact Ne.symm (by assumption) | decide | omega)) ?_)) (by first | rfl | assumption) ?_
    refine V_iload_n rfl (by first | rfl | assumption) ?_
    refine V_aload_n rfl (by first | rfl | assumption) ?_
    refine V_getf rfl rfl rfl (by repeat (first | exact hup_eq | assumption | refine Eq.trans (hup_ne (by first | assumption | exact Ne.symm (by assumption) | decide | omega)) ?_)) (by first | rfl | assumption) ?_
    refine V_callV (M' := mX11_makeKey) (mc := 0) (ms := 0) (bc' := 0) (bs' := 0) rfl cw_X11_350 iv_X11_makeKey (by repeat (first | exact hup_eq | assumption | refine Eq.trans (hup_ne (by first | assumption | exact Ne.symm (by assumption) | decide | omega)) ?_)) rfl rfl (Nat.le_of_ble_eq_true rfl) ⟨Nat.le_of_ble_eq_true rfl, Nat.le_of_ble_eq_true rfl⟩ ⟨Nat.le_of_ble_eq_true rfl, Nat.le_of_ble_eq_true rfl⟩ (As := [.ref (EB e + 33), .int (nI sm), .ref (EB e + 3)]) (c_makeKey (T := T) (Q := fun o G2 => o = .inl none ∧ FP (fun j => (15 ≤ j ∧ j ≤ 18) ∨ j = EB e + 33) G1 G2 ∧ hsr G2 ∧ Rb G2 (EB e + 33) 32 (kyH T sh H (rw9 s1 2) sm)) hT g0 hh h1 h2 es y2c (by omega) (fun G2 q0 q1 q2 => ⟨rfl, q0, q1, q2⟩)) (fun o G2 h => ?_) (fun E G' h => by cases h.1)
    obtain ⟨h0, F2, hh, r33⟩ := h
    cases h0
    have FA := FA.trans F2 (fun x hx => by omega)
    have g0 := F2.get (by omega) g0
    have e0 := F2.get (by omega) e0
    have i38 := F2.get (by omega) i38
    have y1 := F2.get (by omega) y1
    have k6 := F2.get (by omega) k6
    have y3c := F2.get (by omega) y3c
    have k7c := F2.get (by omega) k7c
    have k8c := F2.get (by omega) k8c
    have h1 := h1.fp (F2.2 _ (by omega))
    have h2 := h2.fp (F2.2 _ (by omega))
    have es := es.fp (F2.2 _ (by omega))
    refine V_aload_n rfl (by first | rfl | assumption) ?_
    refine V_aload_n rfl (by first | rfl | assumption) ?_
    refine V_getf rfl rfl rfl (by repeat (first | exact hup_eq | assumption | refine Eq.trans (hup_ne (by first | assumption | exact Ne.symm (by assumption) | decide | omega)) ?_)) (by first | rfl | assumption) ?_
    refine V_getf rfl rfl rfl (by repeat (first | exact hup_eq | assumption | refine Eq.trans (hup_ne (by first | assumption | exact Ne.symm (by assumption) | decide | omega)) ?_)) (by first | rfl | assumption) ?_
    refine V_iload_n rfl (by first | rfl | assumption) ?_
    refine V_iconst (v := nI 1) rfl (by decide) ?_
    refine V_iaddN rfl ?_
    refine V_aload_n rfl (by first | rfl | assumption) ?_
    refine V_getf rfl rfl rfl (by repeat (first | exact hup_eq | assumption | refine Eq.trans (hup_ne (by first | assumption | exact Ne.symm (by assumption) | decide | omega)) ?_)) (by first | rfl | assumption) ?_
    refine V_callV (M' := mX11_makeKey) (mc := 0) (ms := 0) (bc' := 0) (bs' := 0) rfl cw_X11_350 iv_X11_makeKey (by repeat (first | exact hup_eq | assumption | refine Eq.trans (hup_ne (by first | assumption | exact Ne.symm (by assumption) | decide | omega)) ?_)) rfl rfl (Nat.le_of_ble_eq_true rfl) ⟨Nat.le_of_ble_eq_true rfl, Nat.le_of_ble_eq_true rfl⟩ ⟨Nat.le_of_ble_eq_true rfl, Nat.le_of_ble_eq_true rfl⟩ (As := [.ref (EB e + 34), .int (nI (sm + 1)), .ref (EB e + 3)]) (c_makeKey (T := T) (Q := fun o G3 => o = .inl none ∧ FP (fun j => (15 ≤ j ∧ j ≤ 18) ∨ j = EB e + 34) G2 G3 ∧ hsr G3 ∧ Rb G3 (EB e + 34) 32 (kyH T sh H (rw9 s1 2) (sm + 1))) hT g0 hh h1 h2 es y3c (by omega) (fun G3 q0 q1 q2 => ⟨rfl, q0, q1, q2⟩)) (fun o G3 h => ?_) (fun E G' h => by cases h.1)
    obtain ⟨h0, F3, hh, r34⟩ := h
    cases h0
    have FA := FA.trans F3 (fun x hx => by omega)
    have g0 := F3.get (by omega) g0
    have e0 := F3.get (by omega) e0
    have i38 := F3.get (by omega) i38
    have y1 := F3.get (by omega) y1
    have k6 := F3.get (by omega) k6
    have k7c := F3.get (by omega) k7c
    have k8c := F3.get (by omega) k8c
    have h1 := h1.fp (F3.2 _ (by omega))
    have h2 := h2.fp (F3.2 _ (by omega))
    have es := es.fp (F3.2 _ (by omega))
    have r33 := r33.fp (F3.2 _ (by omega))
    refine V_aload_n rfl (by first | rfl | assumption) ?_
    refine V_getf rfl rfl rfl (by repeat (first | exact hup_eq | assumption | refine Eq.trans (hup_ne (by first | assumption | exact Ne.symm (by assumption) | decide | omega)) ?_)) (by first | rfl | assumption) ?_
    refine V_iconst (v := nI 1) rfl (by decide) ?_
    refine V_putf rfl rfl rfl rfl (by repeat (first | exact hup_eq | assumption | refine Eq.trans (hup_ne (by first | assumption | exact Ne.symm (by assumption) | decide | omega)) ?_)) (Nat.le_of_ble_eq_true rfl) (by first | exact ⟨rfl, rfl⟩ | (constructor <;> decide)) ?_
    show V K 0 0 _ _ _ _ (hup G3 (EB e + 32) (KYO (EB e + 33) (EB e + 34) true)) Q
    obtain ⟨G4, hG4⟩ : ∃ G4, G4 = hup G3 (EB e + 32) (KYO (EB e + 33) (EB e + 34) true) := ⟨_, rfl⟩
    rw [← hG4]
    have F4 : FP (fun j => j = EB e + 32) G3 G4 := by rw [hG4]; exact FP.rf.hup rfl
    have i32 : G4.1 (EB e + 32) = some (KYO (EB e + 33) (EB e + 34) true) := by rw [hG4]; exact hup_eq
    clear hG4
    have FA := FA.trans F4 (fun x hx => by omega)
    have g0 := F4.get (by omega) g0
    have e0 := F4.get (by omega) e0
    have i38 := F4.get (by omega) i38
    have k6 := F4.get (by omega) k6
    have k7c := F4.get (by omega) k7c
    have k8c := F4.get (by omega) k8c
    have h1 := h1.fp (F4.2 _ (by omega))
    have h2 := h2.fp (F4.2 _ (by omega))
    have es := es.fp (F4.2 _ (by omega))
    have r33 := r33.fp (F4.2 _ (by omega))
    have r34 := r34.fp (F4.2 _ (by omega))
    have hh := hh.fp (fun j a c => F4.2 j (by omega))
    refine V_aload_n rfl (by first | rfl | assumption) ?_
    refine V_aload_n rfl (by first | rfl | assumption) ?_
    refine V_getf rfl rfl rfl (by repeat (first | exact hup_eq | assumption | refine Eq.trans (hup_ne (by first | assumption | exact Ne.symm (by assumption) | decide | omega)) ?_)) (by first | rfl | assumption) ?_
    refine V_getf rfl rfl rfl (by repeat (first | exact hup_eq | assumption | refine Eq.trans (hup_ne (by first | assumption | exact Ne.symm (by assumption) | decide | omega)) ?_)) (by first | rfl | assumption) ?_
    refine V_getf rfl rfl rfl (by repeat (first | exact hup_eq | assumption | refine Eq.trans (hup_ne (by first | assumption | exact Ne.symm (by assumption) | decide | omega)) ?_)) (by first | rfl | assumption) ?_
    refine V_iload_n rfl (by first | rfl | assumption) ?_
    refine V_aload_n rfl (by first | rfl | assumption) ?_
    refine V_getf rfl rfl rfl (by repeat (first | exact hup_eq | assumption | refine Eq.trans (hup_ne (by first | assumption | exact Ne.symm (by assumption) | decide | omega)) ?_)) (by first | rfl | assumption) ?_
    refine V_callV (M' := mX11_makeKey) (mc := 0) (ms := 0) (bc' := 0) (bs' := 0) rfl cw_X11_350 iv_X11_makeKey (by repeat (first | exact hup_eq | assumption | refine Eq.trans (hup_ne (by first | assumption | exact Ne.symm (by assumption) | decide | omega)) ?_)) rfl rfl (Nat.le_of_ble_eq_true rfl) ⟨Nat.le_of_ble_eq_true rfl, Nat.le_of_ble_eq_true rfl⟩ ⟨Nat.le_of_ble_eq_true rfl, Nat.le_of_ble_eq_true rfl⟩ (As := [.ref (EB e + 44), .int (nI cm), .ref (EB e + 3)]) (c_makeKey (T := T) (Q := fun o G5 => o = .inl none ∧ FP (fun j => (15 ≤ j ∧ j ≤ 18) ∨ j = EB e + 44) G4 G5 ∧ hsr G5 ∧ Rb G5 (EB e + 44) 32 (kyH T sh H (rw9 s1 2) cm)) hT g0 hh h1 h2 es k7c (by omega) (fun G5 q0 q1 q2 => ⟨rfl, q0, q1, q2⟩)) (fun o G5 h => ?_) (fun E G' h => by cases h.1)
    obtain ⟨h0, F5, hh, r44⟩ := h
    cases h0
    have FA := FA.trans F5 (fun x hx => by omega)
    have g0 := F5.get (by omega) g0
    have e0 := F5.get (by omega) e0
    have i38 := F5.get (by omega) i38
    have k6 := F5.get (by omega) k6
    have k8c := F5.get (by omega) k8c
    have h1 := h1.fp (F5.2 _ (by omega))
    have h2 := h2.fp (F5.2 _ (by omega))
    have es := es.fp (F5.2 _ (by omega))
    have r33 := r33.fp (F5.2 _ (by omega))
    have r34 := r34.fp (F5.2 _ (by omega))
    have i32 := F5.get (by omega) i32
    refine V_aload_n rfl (by first | rfl | assumption) ?_
    refine V_aload_n rfl (by first | rfl | assumption) ?_
    refine V_getf rfl rfl rfl (by repeat (first | exact hup_eq | assumption | refine Eq.trans (hup_ne (by first | assumption | exact Ne.symm (by assumption) | decide | omega)) ?_)) (by first | rfl | assumption) ?_
    refine V_getf rfl rfl rfl (by repeat (first | exact hup_eq | assumption | refine Eq.trans (hup_ne (by first | assumption | exact Ne.symm (by assumption) | decide | omega)) ?_)) (by first | rfl | assumption) ?_
    refine V_getf rfl rfl rfl (by repeat (first | exact hup_eq | assumption | refine Eq.trans (hup_ne (by first | assumption | exact Ne.symm (by assumption) | decide | omega)) ?_)) (by first | rfl | assumption) ?_
    refine V_iload_n rfl (by first | rfl | assumption) ?_
    refine V_iconst (v := nI 1) rfl (by decide) ?_
    refine V_iaddN rfl ?_
    refine V_aload_n rfl (by first | rfl | assumption) ?_
    refine V_getf rfl rfl rfl (by repeat (first | exact hup_eq | assumption | refine Eq.trans (hup_ne (by first | assumption | exact Ne.symm (by assumption) | decide | omega)) ?_)) (by first | rfl | assumption) ?_
    refine V_callV (M' := mX11_makeKey) (mc := 0) (ms := 0) (bc' := 0) (bs' := 0) rfl cw_X11_350 iv_X11_makeKey (by repeat (first | exact hup_eq | assumption | refine Eq.trans (hup_ne (by first | assumption | exact Ne.symm (by assumption) | decide | omega)) ?_)) rfl rfl (Nat.le_of_ble_eq_true rfl) ⟨Nat.le_of_ble_eq_true rfl, Nat.le_of_ble_eq_true rfl⟩ ⟨Nat.le_of_ble_eq_true rfl, Nat.le_of_ble_eq_true rfl⟩ (As := [.ref (EB e + 45), .int (nI (cm + 1)), .ref (EB e + 3)]) (c_makeKey (T := T) (Q := fun o G6 => o = .inl none ∧ FP (fun j => (15 ≤ j ∧ j ≤ 18) ∨ j = EB e + 45) G5 G6 ∧ hsr G6 ∧ Rb G6 (EB e + 45) 32 (kyH T sh H (rw9 s1 2) (cm + 1))) hT g0 hh h1 h2 es k8c (by omega) (fun G6 q0 q1 q2 => ⟨rfl, q0, q1, q2⟩)) (fun o G6 h => ?_) (fun E G' h => by cases h.1)
    obtain ⟨h0, F6, hh, r45⟩ := h
    cases h0
    have FA := FA.trans F6 (fun x hx => by omega)
    have g0 := F6.get (by omega) g0
    have e0 := F6.get (by omega) e0
    have i38 := F6.get (by omega) i38
    have k6 := F6.get (by omega) k6
    have h1 := h1.fp (F6.2 _ (by omega))
    have h2 := h2.fp (F6.2 _ (by omega))
    have es := es.fp (F6.2 _ (by omega))
    have r33 := r33.fp (F6.2 _ (by omega))
    have r34 := r34.fp (F6.2 _ (by omega))
    have i32 := F6.get (by omega) i32
    have r44 := r44.fp (F6.2 _ (by omega))
    refine V_aload_n rfl (by first | rfl | assumption) ?_
    refine V_getf rfl rfl rfl (by repeat (first | exact hup_eq | assumption | refine Eq.trans (hup_ne (by first | assumption | exact Ne.symm (by assumption) | decide | omega)) ?_)) (by first | rfl | assumption) ?_
    refine V_getf rfl rfl rfl (by repeat (first | exact hup_eq | assumption | refine Eq.trans (hup_ne (by first | assumption | exact Ne.symm (by assumption) | decide | omega)) ?_)) (by first | rfl | assumption) ?_
    refine V_iconst (v := nI 1) rfl (by decide) ?_
    refine V_putf rfl rfl rfl rfl (by repeat (first | exact hup_eq | assumption | refine Eq.trans (hup_ne (by first | assumption | exact Ne.symm (by assumption) | decide | omega)) ?_)) (Nat.le_of_ble_eq_true rfl) (by first | exact ⟨rfl, rfl⟩ | (constructor <;> decide)) ?_
    show V K 0 0 _ _ _ _ (hup G6 (EB e + 43) (KYO (EB e + 44) (EB e + 45) true)) Q
    obtain ⟨G7, hG7⟩ : ∃ G7, G7 = hup G6 (EB e + 43) (KYO (EB e + 44) (EB e + 45) true) := ⟨_, rfl⟩
    rw [← hG7]
    have F7 : FP (fun j => j = EB e + 43) G6 G7 := by rw [hG7]; exact FP.rf.hup rfl
    have i43 : G7.1 (EB e + 43) = some (KYO (EB e + 44) (EB e + 45) true) := by rw [hG7]; exact hup_eq
    clear hG7
    have FA := FA.trans F7 (fun x hx => by omega)
    have g0 := F7.get (by omega) g0
    have e0 := F7.get (by omega) e0
    have i38 := F7.get (by omega) i38
    have h1 := h1.fp (F7.2 _ (by omega))
    have h2 := h2.fp (F7.2 _ (by omega))
    have es := es.fp (F7.2 _ (by omega))
    have r33 := r33.fp (F7.2 _ (by omega))
    have r34 := r34.fp (F7.2 _ (by omega))
    have i32 := F7.get (by omega) i32
    have r44 := r44.fp (F7.2 _ (by omega))
    have r45 := r45.fp (F7.2 _ (by omega))
    have hh := hh.fp (fun j a c => F7.2 j (by omega))
    refine V_vret rfl rfl (hq G7 (FA.sub (fun x hx => by omega)) ⟨?_, fun k hk => ?_⟩)
    · obtain ⟨m, b, q1, q2⟩ := h.1.2.2.2.2.2.2.2.1
      obtain ⟨m', b', q1', q2'⟩ := h.1.2.2.2.2.2.2.2.2.1
      exact h.1.up (h.1.1.fp (fun j a c => FA.2 j (by omega))) hh (h.1.2.2.1.fp (fun j a c => FA.2 j (by omega))) (fun c a d => by obtain ⟨b, hb⟩ := h.1.2.2.2.2.2.1 c a d; exact ⟨b, FA.get (by omega) hb⟩) ⟨m, b, FA.get (by omega) q1, FA.get (by omega) q2⟩ ⟨m', b', FA.get (by omega) q1', FA.get (by omega) q2'⟩ (fun j hj => FA.2 j (by omega))
    · by_cases ek : k = e
      · subst ek
        show RE (EB k) (up S.1 k _ k) _
        rw [up_eq]
        have D : ∀ j, EB k ≤ j → j ≤ EB k + 45 → j ≠ EB k → j ≠ EB k + 3 → j ≠ EB k + 38 → ¬ (EB k + 32 ≤ j ∧ j ≤ EB k + 34) → ¬ (EB k + 43 ≤ j ∧ j ≤ EB k + 45) → G7.1 j = G.1 j := fun j a b c d e f g => FA.2 j (by omega)
        refine ⟨e0, ?_, ?_, es, ?_, ?_, ⟨⟨i32, r33, r34⟩, ?_, ?_, ?_⟩, ?_, ?_, ?_, ?_, ⟨pf, k5.fp (D _ (by omega) (by omega) (by omega) (by omega) (by omega) (by omega) (by omega)), fun q => ?_⟩, ⟨true, i43, fun _ => rfl⟩, r44, r45⟩
        · show Rb G7 _ 32 (rw9 s1 0)
          rw [r1 0 (by decide)]
          exact x2.fp (D _ (by omega) (by omega) (by omega) (by omega) (by omega) (by omega) (by omega))
        · show Rb G7 _ 8 (rw9 s1 1)
          rw [r1 1 (by decide)]
          exact x3.fp (D _ (by omega) (by omega) (by omega) (by omega) (by omega) (by omega) (by omega))
        · show Rw G7 _ _ 2000 (gt s1)
          rw [n1.2.2.1]
          exact x5.fp (D _ (by omega) (by omega) (by omega) (by omega) (by omega) (by omega) (by omega)) (D _ (by omega) (by omega) (by omega) (by omega) (by omega) (by omega) (by omega))
        · show WR _ G7 (wi s1)
          rw [n1.2.2.2]
          exact x6.fp (fun j a c => D j (by omega) (by omega) (by omega) (by omega) (by omega) (by omega) (by omega))
        · show G7.1 _ = some (KYO _ _ (fl s1 7))
          rw [f1 7 (by decide)]
          exact (D _ (by omega) (by omega) (by omega) (by omega) (by omega) (by omega) (by omega)).trans y4
        · show Rb G7 _ 32 (rw9 s1 8)
          rw [r1 8 (by decide)]
          exact y5.fp (D _ (by omega) (by omega) (by omega) (by omega) (by omega) (by omega) (by omega))
        · show Rb G7 _ 32 (rw9 s1 9)
          rw [r1 9 (by decide)]
          exact y6.fp (D _ (by omega) (by omega) (by omega) (by omega) (by omega) (by omega) (by omega))
        · show G7.1 _ = some (XO _ (fl s1 2) (fl s1 3) (fl s1 4) (fl s1 8) true)
          rw [f1 2 (by decide), f1 3 (by decide), f1 4 (by decide), f1 8 (by decide)]
          exact i38
        · show Rb G7 _ 9 (rw9 s1 4)
          rw [r1 4 (by decide)]
          exact k2.fp (D _ (by omega) (by omega) (by omega) (by omega) (by omega) (by omega) (by omega))
        · show Rb G7 _ 9 (rw9 s1 5)
          rw [r1 5 (by decide)]
          exact k3.fp (D _ (by omega) (by omega) (by omega) (by omega) (by omega) (by omega) (by omega))
        · show Rb G7 _ 32 (rw9 s1 3)
          rw [r1 3 (by decide)]
          exact k4.fp (D _ (by omega) (by omega) (by omega) (by omega) (by omega) (by omega) (by omega))
        · have q' : fl s1 4 = true := q
          rw [f1 4 (by decide)] at q'
          show ∀ j, j < 32 → pf j = mulB (rw9 s1 3) nine j
          rw [r1 3 (by decide)]
          exact k5' q'
      · show RE (EB k) (up S.1 e _ k) _
        rw [up_ne ek]
        exact (h.2 k hk).fp (fun j a c => FA.2 j (by unfold EB at a c ⊢; omega))

  refine V_aload_n rfl (by first | rfl | assumption) ?_
  refine V_getf rfl rfl rfl (by repeat (first | exact hup_eq | assumption | refine Eq.trans (hup_ne (by first | assumption | exact Ne.symm (by assumption) | decide | omega)) ?_)) (by first | rfl | assumption) ?_
  by_cases hs : fl (S.1 e) 1 = true
  · rw [hs]
    refine V_if_ne rfl (fun _ => ?_) (fun h => absurd h (by decide))
    rw [if_pos hs] at hs1
    exact go _ G rfl rfl rfl rfl FP.rf (by rw [hs1]; exact x1) (by rw [hs1]; exact ⟨ss9, ss1, ss2, ss3⟩)
  · have hs' : fl (S.1 e) 1 = false := by cases hh : fl (S.1 e) 1 with | false => rfl | true => exact absurd hh hs
    rw [hs']
    refine V_if_ne rfl (fun h => absurd rfl h) (fun _ => ?_)
    obtain ⟨a9, a1, a2, a3⟩ := id h2
    refine V_aload_n rfl (by first | rfl | assumption) ?_
    refine V_iconst (v := nI 1) rfl (by decide) ?_
    refine V_putf rfl rfl rfl rfl (by repeat (first | exact hup_eq | assumption | refine Eq.trans (hup_ne (by first | assumption | exact Ne.symm (by assumption) | decide | omega)) ?_)) (Nat.le_of_ble_eq_true rfl) (by first | exact ⟨rfl, rfl⟩ | (constructor <;> decide)) ?_
    refine V_aload_n rfl (by first | rfl | assumption) ?_
    refine V_getf rfl rfl rfl (by repeat (first | exact hup_eq | assumption | refine Eq.trans (hup_ne (by first | assumption | exact Ne.symm (by assumption) | decide | omega)) ?_)) (by first | rfl | assumption) ?_
    refine V_iconst (v := nI 0) rfl (by decide) ?_
    refine V_aload_n rfl (by first | rfl | assumption) ?_
    refine V_getf rfl rfl rfl (by repeat (first | exact hup_eq | assumption | refine Eq.trans (hup_ne (by first | assumption | exact Ne.symm (by assumption) | decide | omega)) ?_)) (by first | rfl | assumption) ?_
    refine V_iconst (v := nI 0) rfl (by decide) ?_
    refine V_bipush (v := nI 32) rfl (by decide) ?_
    refine V_copyi (st := []) (f := fun j => nI (a9 j)) (g := fun j => nI (ss9 j)) (n0 := 32) (n1 := 32) rfl ⟨kk_X11_108, k_ac⟩ ((hup_ne (by omega)).trans a1) ((hup_ne (by omega)).trans ss1) (by decide) (by decide) (by decide) (by decide) (by decide) (by decide) (by decide) ?_
    rw [show (nI 0).toNatClampNeg = 0 by decide, show (nI 32).toNatClampNeg = 32 by decide, cpyB]
    rw [if_neg hs] at hs1
    refine go _ _ rfl rfl rfl rfl ((FP.rf.hup (Or.inl rfl)).hup (Or.inr rfl)) ?_ ?_
    · rw [hup_ne (by omega), hup_eq, hs1]
      rfl
    · rw [hs1]
      refine ⟨_, hup_eq, fun j hj => ?_, fun j hj => ?_⟩
      · rw [if_pos hj, a2 j hj]
        rfl
      · exact a3 j hj
end CClass4
