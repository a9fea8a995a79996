section CClass7
variable {K : kK} {G : kG} {Q : kO → kG → Prop}
theorem RC.tl {S : SG} {G' : kG} (h : RC S G) (F : FP (fun j => (2 ≤ j ∧ j ≤ 13) ∨ (15 ≤ j ∧ j ≤ 18) ∨ (126 ≤ j ∧ j ≤ 129) ∨ j = 134 ∨ j = 135) G G') (hc : crv G') (hh : hsr G') (hr : ∀ c, 126 ≤ c → c ≤ 129 → ∃ b, G'.1 c = some (BA 32 b)) (ho : ∃ m b, G'.1 134 = some (ROB 135 m) ∧ G'.1 135 = some (BA 200 b)) : RC S G' := by
  refine ⟨?_, fun k hk => (h.2 k hk).fp (fun j a c => F.2 j (by unfold EB at a c; omega))⟩
  obtain ⟨m, b, q1, q2⟩ := h.1.2.2.2.2.2.2.2.1
  exact h.1.up hc hh (h.1.2.2.1.fp (fun j a c => F.2 j (by omega))) hr ⟨m, b, F.get (by omega) q1, F.get (by omega) q2⟩ ho (fun j hj => F.2 j (by omega))
theorem Rb.c {a N : Nat} {f : Nat → Nat} (h : Rb G a N f) : ∃ b, G.1 a = some (BA N b) := ⟨h.choose, h.choose_spec.1⟩
set_option maxHeartbeats 32000000 in
theorem c_onRequest {S : SG} {c9 : List Nat} {T : TB} (hT : tbl K T) (h : RC S G) (hi : Rw G 132 133 200 c9) (hc : 33 ≤ c9.length) (hsent : nm (S.1 1) 0 < 2 ^ 30) (hq : ∀ G', FP (fun j => (2 ≤ j ∧ j ≤ 13) ∨ (15 ≤ j ∧ j ≤ 123) ∨ (126 ≤ j ∧ j ≤ 129) ∨ j = 134 ∨ j = 135) G G' → RC (onR T S c9) G' → Q (.inl none) G') : C K 0 0 mX11_onRequest [.ref 0] G Q := by
  obtain ⟨tp, sp, g0⟩ := h.sw
  have R78 : RE 78 (S.1 1) G := h.2 1 (by decide)
  obtain ⟨x1, x2, -, -, -, -, -, k1, k2, k3, ⟨y9, y1, -⟩, ⟨pf, ⟨p9, p1, -⟩, -⟩, ⟨mk, k6, k6'⟩, k7, k8⟩ := id R78
  have hcr := h.1.1
  have hhs := h.1.2.1
  have hho := h.1.2.2.2.1
  have FA : FP (fun j => (2 ≤ j ∧ j ≤ 13) ∨ (15 ≤ j ∧ j ≤ 123) ∨ (126 ≤ j ∧ j ≤ 129) ∨ j = 134 ∨ j = 135) G G := FP.rf
  refine C_of okX11_onRequest (Nat.le_of_ble_eq_true rfl) ?_
  refine V_aload_n rfl (by first | rfl | assumption) ?_
  refine V_getf rfl rfl rfl (by repeat (first | exact hup_eq | assumption | refine Eq.trans (hup_ne (by first | assumption | exact Ne.symm (by assumption) | decide | omega)) ?_)) (by first | rfl | assumption) ?_
  refine V_getf rfl rfl rfl (by repeat (first | exact hup_eq | assumption | refine Eq.trans (hup_ne (by first | assumption | exact Ne.symm (by assumption) | decide | omega)) ?_)) (by first | rfl | assumption) ?_
  refine V_astore_n rfl (by decide) ?_
  refine V_aload_n rfl (by first | rfl | assumption) ?_
  refine V_iconst (v := nI 1) rfl (by decide) ?_
  refine V_putf rfl rfl rfl rfl (by repeat (first | exact hup_eq | assumption | refine Eq.trans (hup_ne (by first | assumption | exact Ne.symm (by assumption) | decide | omega)) ?_)) (Nat.le_of_ble_eq_true rfl) (by first | exact ⟨rfl, rfl⟩ | (constructor <;> decide)) ?_
  show V K 0 0 _ _ _ _ (hup G (78 + 38) (XO 78 (fl (S.1 1) 2) (fl (S.1 1) 3) true (fl (S.1 1) 8) (fl (S.1 1) 5))) Q
  obtain ⟨G0, hG0⟩ : ∃ G0, G0 = hup G (78 + 38) (XO 78 (fl (S.1 1) 2) (fl (S.1 1) 3) true (fl (S.1 1) 8) (fl (S.1 1) 5)) := ⟨_, rfl⟩
  rw [← hG0]
  have F0 : FP (fun j => j = 116) G G0 := by rw [hG0]; exact FP.rf.hup rfl
  have i38 : G0.1 (78 + 38) = some (XO 78 (fl (S.1 1) 2) (fl (S.1 1) 3) true (fl (S.1 1) 8) (fl (S.1 1) 5)) := by rw [hG0]; exact hup_eq
  clear hG0

  have FA := FA.trans F0 (fun x hx => by omega)
  have g0 := F0.get (by omega) g0
  have x1 := F0.get (by omega) x1
  have x2 := x2.fp (F0.2 _ (by omega))
  have k2 := k2.fp (F0.2 _ (by omega))
  have k3 := k3.fp (F0.2 _ (by omega))
  have y1 := F0.get (by omega) y1
  have p1 := F0.get (by omega) p1
  have k6 := F0.get (by omega) k6
  have k7 := k7.fp (F0.2 _ (by omega))
  have k8 := k8.fp (F0.2 _ (by omega))
  have hi := hi.fp (F0.2 _ (by omega)) (F0.2 _ (by omega))
  have hho := hho.fp (F0.2 _ (by omega))
  have hcr := hcr.fp (fun j a c => F0.2 j (by omega))
  have hhs := hhs.fp (fun j a c => F0.2 j (by omega))
  refine V_aload_n rfl (by first | rfl | assumption) ?_
  refine V_aload_n rfl (by first | rfl | assumption) ?_
  refine V_getf rfl rfl rfl (by repeat (first | exact hup_eq | assumption | refine Eq.trans (hup_ne (by first | assumption | exact Ne.symm (by assumption) | decide | omega)) ?_)) (by first | rfl | assumption) ?_
  refine V_callV (M' := mX11_takeSecret) (mc := 0) (ms := 0) (bc' := 0) (bs' := 0) rfl cw_X11_317 iv_X11_takeSecret (by repeat (first | exact hup_eq | assumption | refine Eq.trans (hup_ne (by first | assumption | exact Ne.symm (by assumption) | decide | omega)) ?_)) rfl rfl (Nat.le_of_ble_eq_true rfl) ⟨Nat.le_of_ble_eq_true rfl, Nat.le_of_ble_eq_true rfl⟩ ⟨Nat.le_of_ble_eq_true rfl, Nat.le_of_ble_eq_true rfl⟩ (As := [.ref 78]) (c_takeSecret0 (T := T) (E := 78) (s := S.1 1) (Q := fun o G1 => o = .inl none ∧ FP (fun j => (2 ≤ j ∧ j ≤ 13) ∨ j = 78 + 41 ∨ j = 78 + 42) G0 G1 ∧ crv G1 ∧ Rb G1 (78 + 41) 32 (rw9 (S.1 1) 0) ∧ Rb G1 (78 + 42) 32 (mulB (rw9 (S.1 1) 0) nine)) hT g0 x1 i38 x2 y1 p1 hcr (by decide) (fun G1 q0 q1 q2 q3 => ⟨rfl, q0, q1, q2, q3⟩)) (fun o G1 h => ?_) (fun E G' h => by cases h.1)
  obtain ⟨h0, F1, hcr, r41, r42⟩ := h
  cases h0
  have FA := FA.trans F1 (fun x hx => by omega)
  have g0 := F1.get (by omega) g0
  have x1 := F1.get (by omega) x1
  have x2 := x2.fp (F1.2 _ (by omega))
  have k2 := k2.fp (F1.2 _ (by omega))
  have k3 := k3.fp (F1.2 _ (by omega))
  have k6 := F1.get (by omega) k6
  have k7 := k7.fp (F1.2 _ (by omega))
  have k8 := k8.fp (F1.2 _ (by omega))
  have hi := hi.fp (F1.2 _ (by omega)) (F1.2 _ (by omega))
  have hho := hho.fp (F1.2 _ (by omega))
  have hhs := hhs.fp (fun j a c => F1.2 j (by omega))
  have i38 := F1.get (by omega) i38
  obtain ⟨s1, hs1⟩ : ∃ s1, s1 = srw (sfl (S.1 1) 4 true) 3 (rw9 (S.1 1) 0) := ⟨_, rfl⟩
  have hE2 : tks (sE S 1 (sfl (S.1 1) 4 true)) 1 = sE S 1 s1 := by
    unfold tks
    rw [sE_get, sE_sE, hs1]
    rfl
  have hpb : pub s1 = mulB (rw9 (S.1 1) 0) nine := by rw [hs1]; rfl
  have h13 : rw9 s1 3 = rw9 (S.1 1) 0 := by rw [hs1]; rfl
  have h15 : rw9 s1 5 = rw9 (S.1 1) 5 := by rw [hs1]; rfl
  have h14 : rw9 s1 4 = rw9 (S.1 1) 4 := by rw [hs1]; rfl
  have FX : FP (fun j => (2 ≤ j ∧ j ≤ 13) ∨ (EB 1 + 38 ≤ j ∧ j ≤ EB 1 + 45)) G G1 := by
    have hE1 : EB 1 = 78 := rfl
    exact (F0.sub (P' := fun j => (2 ≤ j ∧ j ≤ 13) ∨ (EB 1 + 38 ≤ j ∧ j ≤ EB 1 + 45)) (fun x hx => by omega)).trans F1 (fun x hx => by omega)
  have R1 : RC (sE S 1 s1) G1 := by
    refine h.x (e := 1) (by decide) FX hcr ⟨?_, ?_, ?_, ?_, ?_, ?_, ?_, ?_⟩ (fun k hk => by rw [hs1]; exact up_ne (by omega)) (fun k hk => by rw [hs1]; exact up_ne (by omega)) (by rw [hs1]; exact ⟨rfl, rfl, rfl, rfl⟩)
    · rw [hs1]; exact i38
    · rw [hs1]; exact k2
    · rw [hs1]; exact k3
    · rw [hs1]; exact r41
    · exact ⟨_, r42, fun _ j _ => by rw [hpb]⟩
    · rw [hs1]; exact ⟨mk, k6, k6'⟩
    · rw [hs1]; exact k7
    · rw [hs1]; exact k8
  have FT : FP (fun j => (2 ≤ j ∧ j ≤ 13) ∨ (15 ≤ j ∧ j ≤ 18) ∨ (126 ≤ j ∧ j ≤ 129) ∨ j = 134 ∨ j = 135) G1 G1 := FP.rf
  obtain ⟨b26, c26⟩ := R1.1.2.2.2.2.2.1 126 (by decide) (by decide)
  obtain ⟨b27, c27⟩ := R1.1.2.2.2.2.2.1 127 (by decide) (by decide)
  obtain ⟨b28, c28⟩ := R1.1.2.2.2.2.2.1 128 (by decide) (by decide)
  obtain ⟨b29, c29⟩ := R1.1.2.2.2.2.2.1 129 (by decide) (by decide)
  obtain ⟨mo, bo, co1, co2⟩ := R1.1.2.2.2.2.2.2.2.2.1
  obtain ⟨iN, ib, ic, iR⟩ := hi
  have hi : Rw G1 132 133 200 c9 := ⟨iN, ib, ic, iR⟩
  have ir := hi.1
  have g1 := hcr.1
  refine V_aload_n rfl (by first | rfl | assumption) ?_
  refine V_getf rfl rfl rfl (by repeat (first | exact hup_eq | assumption | refine Eq.trans (hup_ne (by first | assumption | exact Ne.symm (by assumption) | decide | omega)) ?_)) (by first | rfl | assumption) ?_
  refine V_aload_n rfl (by first | rfl | assumption) ?_
  refine V_getf rfl rfl rfl (by repeat (first | exact hup_eq | assumption | refine Eq.trans (hup_ne (by first | assumption | exact Ne.symm (by assumption) | decide | omega)) ?_)) (by first | rfl | assumption) ?_
  refine V_gets (j := 0) rfl rfl ks_X11_324 ?_
  refine V_iconst (v := nI 0) rfl (by decide) ?_
  refine V_aload_n rfl (by first | rfl | assumption) ?_
  refine V_getf rfl rfl rfl (by repeat (first | exact hup_eq | assumption | refine Eq.trans (hup_ne (by first | assumption | exact Ne.symm (by assumption) | decide | omega)) ?_)) (by first | rfl | assumption) ?_
  refine V_callV (M' := mX0_times) (mc := 0) (ms := 0) (bc' := 0) (bs' := 0) rfl cw_X11_114 iv_X0_times (by repeat (first | exact hup_eq | assumption | refine Eq.trans (hup_ne (by first | assumption | exact Ne.symm (by assumption) | decide | omega)) ?_)) rfl rfl (Nat.le_of_ble_eq_true rfl) ⟨Nat.le_of_ble_eq_true rfl, Nat.le_of_ble_eq_true rfl⟩ ⟨Nat.le_of_ble_eq_true rfl, Nat.le_of_ble_eq_true rfl⟩ (As := [.ref 124, .ref 1000000, .int (nI 0), .ref 126]) (c_timesN (T := T) (Q := fun o G2 => o = .inl none ∧ FP (fun j => (2 ≤ j ∧ j ≤ 13) ∨ j = 126) G1 G2 ∧ crv G2 ∧ Rb G2 126 32 (mulB (S.2.1 0) nine)) hT hcr (hho.sg (by decide)) c26 (by decide) (fun G2 q0 q1 q2 => ⟨rfl, q0, q1, q2⟩)) (fun o G2 h => ?_) (fun E G' h => by cases h.1)
  obtain ⟨h0, F2, hcr, r126⟩ := h
  cases h0
  have FA := FA.trans F2 (fun x hx => by omega)
  have FT := FT.trans F2 (fun x hx => by omega)
  have g0 := F2.get (by omega) g0
  have x1 := F2.get (by omega) x1
  have i38 := F2.get (by omega) i38
  have k2 := k2.fp (F2.2 _ (by omega))
  have k3 := k3.fp (F2.2 _ (by omega))
  have r41 := r41.fp (F2.2 _ (by omega))
  have r42 := r42.fp (F2.2 _ (by omega))
  have hi := hi.fp (F2.2 _ (by omega)) (F2.2 _ (by omega))
  have hho := hho.fp (F2.2 _ (by omega))
  have hhs := hhs.fp (fun j a c => F2.2 j (by omega))
  have c27 := F2.get (by omega) c27
  have c28 := F2.get (by omega) c28
  have c29 := F2.get (by omega) c29
  have co1 := F2.get (by omega) co1
  have co2 := F2.get (by omega) co2
  have ir := F2.get (by omega) ir
  have g1 := hcr.1
  refine V_aload_n rfl (by first | rfl | assumption) ?_
  refine V_getf rfl rfl rfl (by repeat (first | exact hup_eq | assumption | refine Eq.trans (hup_ne (by first | assumption | exact Ne.symm (by assumption) | decide | omega)) ?_)) (by first | rfl | assumption) ?_
  refine V_aload_n rfl (by first | rfl | assumption) ?_
  refine V_getf rfl rfl rfl (by repeat (first | exact hup_eq | assumption | refine Eq.trans (hup_ne (by first | assumption | exact Ne.symm (by assumption) | decide | omega)) ?_)) (by first | rfl | assumption) ?_
  refine V_aload_n rfl (by first | rfl | assumption) ?_
  refine V_getf rfl rfl rfl (by repeat (first | exact hup_eq | assumption | refine Eq.trans (hup_ne (by first | assumption | exact Ne.symm (by assumption) | decide | omega)) ?_)) (by first | rfl | assumption) ?_
  refine V_getf rfl rfl rfl (by repeat (first | exact hup_eq | assumption | refine Eq.trans (hup_ne (by first | assumption | exact Ne.symm (by assumption) | decide | omega)) ?_)) (by first | rfl | assumption) ?_
  refine V_iconst (v := nI 1) rfl (by decide) ?_
  refine V_aload_n rfl (by first | rfl | assumption) ?_
  refine V_getf rfl rfl rfl (by repeat (first | exact hup_eq | assumption | refine Eq.trans (hup_ne (by first | assumption | exact Ne.symm (by assumption) | decide | omega)) ?_)) (by first | rfl | assumption) ?_
  refine V_callV (M' := mX0_times) (mc := 0) (ms := 0) (bc' := 0) (bs' := 0) rfl cw_X11_114 iv_X0_times (by repeat (first | exact hup_eq | assumption | refine Eq.trans (hup_ne (by first | assumption | exact Ne.symm (by assumption) | decide | omega)) ?_)) rfl rfl (Nat.le_of_ble_eq_true rfl) ⟨Nat.le_of_ble_eq_true rfl, Nat.le_of_ble_eq_true rfl⟩ ⟨Nat.le_of_ble_eq_true rfl, Nat.le_of_ble_eq_true rfl⟩ (As := [.ref (78 + 41), .ref 133, .int (nI 1), .ref 127]) (c_timesSg (Q := fun o G3 => o = .inl none ∧ FP (fun j => (2 ≤ j ∧ j ≤ 13) ∨ j = 127) G2 G3 ∧ crv G3 ∧ Rb G3 127 32 (mulB (rw9 (S.1 1) 0) (sft (gD c9) 1))) hcr (r41.sg (by decide)) (hi.sg (s := 1) (n := 32) (by decide) (by omega)) c27 (by decide) (fun G3 q0 q1 q2 => ⟨rfl, q0, q1, q2⟩)) (fun o G3 h => ?_) (fun E G' h => by cases h.1)
  obtain ⟨h0, F3, hcr, r127⟩ := h
  cases h0
  have FA := FA.trans F3 (fun x hx => by omega)
  have FT := FT.trans F3 (fun x hx => by omega)
  have g0 := F3.get (by omega) g0
  have x1 := F3.get (by omega) x1
  have i38 := F3.get (by omega) i38
  have k2 := k2.fp (F3.2 _ (by omega))
  have k3 := k3.fp (F3.2 _ (by omega))
  have r41 := r41.fp (F3.2 _ (by omega))
  have r42 := r42.fp (F3.2 _ (by omega))
  have hi := hi.fp (F3.2 _ (by omega)) (F3.2 _ (by omega))
  have hho := hho.fp (F3.2 _ (by omega))
  have hhs := hhs.fp (fun j a c => F3.2 j (by omega))
  have c28 := F3.get (by omega) c28
  have c29 := F3.get (by omega) c29
  have co1 := F3.get (by omega) co1
  have co2 := F3.get (by omega) co2
  have ir := F3.get (by omega) ir
  have r126 := r126.fp (F3.2 _ (by omega))
  refine V_aload_n rfl (by first | rfl | assumption) ?_
  refine V_aload_n rfl (by first | rfl | assumption) ?_
  refine V_getf rfl rfl rfl (by repeat (first | exact hup_eq | assumption | refine Eq.trans (hup_ne (by first | assumption | exact Ne.symm (by assumption) | decide | omega)) ?_)) (by first | rfl | assumption) ?_
  refine V_aload_n rfl (by first | rfl | assumption) ?_
  refine V_getf rfl rfl rfl (by repeat (first | exact hup_eq | assumption | refine Eq.trans (hup_ne (by first | assumption | exact Ne.symm (by assumption) | decide | omega)) ?_)) (by first | rfl | assumption) ?_
  refine V_aload_n rfl (by first | rfl | assumption) ?_
  refine V_getf rfl rfl rfl (by repeat (first | exact hup_eq | assumption | refine Eq.trans (hup_ne (by first | assumption | exact Ne.symm (by assumption) | decide | omega)) ?_)) (by first | rfl | assumption) ?_
  refine V_iconst (v := nI 0) rfl (by decide) ?_
  refine V_callV (M' := mX11_startAgreement) (mc := 0) (ms := 0) (bc' := 0) (bs' := 0) rfl cw_X11_327 iv_X11_startAgreement (by repeat (first | exact hup_eq | assumption | refine Eq.trans (hup_ne (by first | assumption | exact Ne.symm (by assumption) | decide | omega)) ?_)) rfl rfl (Nat.le_of_ble_eq_true rfl) ⟨Nat.le_of_ble_eq_true rfl, Nat.le_of_ble_eq_true rfl⟩ ⟨Nat.le_of_ble_eq_true rfl, Nat.le_of_ble_eq_true rfl⟩ (As := [.ref (78 + 40), .ref (78 + 39), .ref 126, .int (nI 0)]) (c_startAgreement (Q := fun o G4 => o = .inl none ∧ FP (fun j => j = 17 ∨ j = 18) G3 G4 ∧ HM G4 (lst (rw9 (S.1 1) 5) 9 ++ lst (rw9 (S.1 1) 4) 9 ++ lst (mulB (S.2.1 0) nine) 32)) g0 hhs (k3.sg (by decide)) (k2.sg (by decide)) (r126.sg (by decide)) (by decide) (fun G4 q0 q1 => ⟨rfl, q0, q1⟩)) (fun o G4 h => ?_) (fun E G' h => by cases h.1)
  obtain ⟨h0, F4, m1⟩ := h
  cases h0
  have FA := FA.trans F4 (fun x hx => by omega)
  have FT := FT.trans F4 (fun x hx => by omega)
  have g0 := F4.get (by omega) g0
  have x1 := F4.get (by omega) x1
  have i38 := F4.get (by omega) i38
  have k2 := k2.fp (F4.2 _ (by omega))
  have k3 := k3.fp (F4.2 _ (by omega))
  have r41 := r41.fp (F4.2 _ (by omega))
  have r42 := r42.fp (F4.2 _ (by omega))
  have hi := hi.fp (F4.2 _ (by omega)) (F4.2 _ (by omega))
  have hho := hho.fp (F4.2 _ (by omega))
  have c28 := F4.get (by omega) c28
  have c29 := F4.get (by omega) c29
  have co1 := F4.get (by omega) co1
  have co2 := F4.get (by omega) co2
  have ir := F4.get (by omega) ir
  have r126 := r126.fp (F4.2 _ (by omega))
  have r127 := r127.fp (F4.2 _ (by omega))
  have hcr := hcr.fp (fun j a c => F4.2 j (by omega))
  have g14 := m1.1
  refine V_aload_n rfl (by first | rfl | assumption) ?_
  refine V_getf rfl rfl rfl (by repeat (first | exact hup_eq | assumption | refine Eq.trans (hup_ne (by first | assumption | exact Ne.symm (by assumption) | decide | omega)) ?_)) (by first | rfl | assumption) ?_
  refine V_aload_n rfl (by first | rfl | assumption) ?_
  refine V_getf rfl rfl rfl (by repeat (first | exact hup_eq | assumption | refine Eq.trans (hup_ne (by first | assumption | exact Ne.symm (by assumption) | decide | omega)) ?_)) (by first | rfl | assumption) ?_
  refine V_getf rfl rfl rfl (by repeat (first | exact hup_eq | assumption | refine Eq.trans (hup_ne (by first | assumption | exact Ne.symm (by assumption) | decide | omega)) ?_)) (by first | rfl | assumption) ?_
  refine V_iconst (v := nI 1) rfl (by decide) ?_
  refine V_bipush (v := nI 32) rfl (by decide) ?_
  refine V_callV (M' := mX3_addRow) (mc := 0) (ms := 0) (bc' := 0) (bs' := 0) rfl cw_X11_121 iv_X3_addRow (by repeat (first | exact hup_eq | assumption | refine Eq.trans (hup_ne (by first | assumption | exact Ne.symm (by assumption) | decide | omega)) ?_)) rfl rfl (Nat.le_of_ble_eq_true rfl) ⟨Nat.le_of_ble_eq_true rfl, Nat.le_of_ble_eq_true rfl⟩ ⟨Nat.le_of_ble_eq_true rfl, Nat.le_of_ble_eq_true rfl⟩ (As := [.ref 133, .int (nI 1), .int (nI 32)]) (c_addSg (Q := fun o G5 => o = .inl none ∧ FP (fun j => j = 17 ∨ j = 18) G4 G5 ∧ HM G5 (lst (rw9 (S.1 1) 5) 9 ++ lst (rw9 (S.1 1) 4) 9 ++ lst (mulB (S.2.1 0) nine) 32 ++ lst (sft (gD c9) 1) 32)) m1 (hi.sg (s := 1) (n := 32) (by decide) (by omega)) (by simp [lst_len]) (fun G5 q0 q1 => ⟨rfl, q0, q1⟩)) (fun o G5 h => ?_) (fun E G' h => by cases h.1)
  obtain ⟨h0, F5, m1⟩ := h
  cases h0
  have FA := FA.trans F5 (fun x hx => by omega)
  have FT := FT.trans F5 (fun x hx => by omega)
  have g0 := F5.get (by omega) g0
  have x1 := F5.get (by omega) x1
  have i38 := F5.get (by omega) i38
  have k2 := k2.fp (F5.2 _ (by omega))
  have k3 := k3.fp (F5.2 _ (by omega))
  have r41 := r41.fp (F5.2 _ (by omega))
  have r42 := r42.fp (F5.2 _ (by omega))
  have hi := hi.fp (F5.2 _ (by omega)) (F5.2 _ (by omega))
  have hho := hho.fp (F5.2 _ (by omega))
  have c28 := F5.get (by omega) c28
  have c29 := F5.get (by omega) c29
  have co1 := F5.get (by omega) co1
  have co2 := F5.get (by omega) co2
  have ir := F5.get (by omega) ir
  have r126 := r126.fp (F5.2 _ (by omega))
  have r127 := r127.fp (F5.2 _ (by omega))
  have hcr := hcr.fp (fun j a c => F5.2 j (by omega))
  have g14 := m1.1
  refine V_aload_n rfl (by first | rfl | assumption) ?_
  refine V_getf rfl rfl rfl (by repeat (first | exact hup_eq | assumption | refine Eq.trans (hup_ne (by first | assumption | exact Ne.symm (by assumption) | decide | omega)) ?_)) (by first | rfl | assumption) ?_
  refine V_aload_n rfl (by first | rfl | assumption) ?_
  refine V_getf rfl rfl rfl (by repeat (first | exact hup_eq | assumption | refine Eq.trans (hup_ne (by first | assumption | exact Ne.symm (by assumption) | decide | omega)) ?_)) (by first | rfl | assumption) ?_
  refine V_iconst (v := nI 0) rfl (by decide) ?_
  refine V_bipush (v := nI 32) rfl (by decide) ?_
  refine V_callV (M' := mX3_addRow) (mc := 0) (ms := 0) (bc' := 0) (bs' := 0) rfl cw_X11_121 iv_X3_addRow (by repeat (first | exact hup_eq | assumption | refine Eq.trans (hup_ne (by first | assumption | exact Ne.symm (by assumption) | decide | omega)) ?_)) rfl rfl (Nat.le_of_ble_eq_true rfl) ⟨Nat.le_of_ble_eq_true rfl, Nat.le_of_ble_eq_true rfl⟩ ⟨Nat.le_of_ble_eq_true rfl, Nat.le_of_ble_eq_true rfl⟩ (As := [.ref (78 + 42), .int (nI 0), .int (nI 32)]) (c_addSg (Q := fun o G6 => o = .inl none ∧ FP (fun j => j = 17 ∨ j = 18) G5 G6 ∧ HM G6 (lst (rw9 (S.1 1) 5) 9 ++ lst (rw9 (S.1 1) 4) 9 ++ lst (mulB (S.2.1 0) nine) 32 ++ lst (sft (gD c9) 1) 32 ++ lst (mulB (rw9 (S.1 1) 0) nine) 32)) m1 (r42.sg (by decide)) (by simp [lst_len]) (fun G6 q0 q1 => ⟨rfl, q0, q1⟩)) (fun o G6 h => ?_) (fun E G' h => by cases h.1)
  obtain ⟨h0, F6, m1⟩ := h
  cases h0
  have FA := FA.trans F6 (fun x hx => by omega)
  have FT := FT.trans F6 (fun x hx => by omega)
  have g0 := F6.get (by omega) g0
  have x1 := F6.get (by omega) x1
  have i38 := F6.get (by omega) i38
  have k2 := k2.fp (F6.2 _ (by omega))
  have k3 := k3.fp (F6.2 _ (by omega))
  have r41 := r41.fp (F6.2 _ (by omega))
  have r42 := r42.fp (F6.2 _ (by omega))
  have hi := hi.fp (F6.2 _ (by omega)) (F6.2 _ (by omega))
  have hho := hho.fp (F6.2 _ (by omega))
  have c28 := F6.get (by omega) c28
  have c29 := F6.get (by omega) c29
  have co1 := F6.get (by omega) co1
  have co2 := F6.get (by omega) co2
  have ir := F6.get (by omega) ir
  have r126 := r126.fp (F6.2 _ (by omega))
  have r127 := r127.fp (F6.2 _ (by omega))
  have hcr := hcr.fp (fun j a c => F6.2 j (by omega))
  refine V_aload_n rfl (by first | rfl | assumption) ?_
  obtain ⟨sh, hsh⟩ : ∃ sh, sh = mulB (rw9 (S.1 1) 0) (sft (gD c9) 1) := ⟨_, rfl⟩
  rw [← hsh] at r127
  obtain ⟨H, hH⟩ : ∃ H, H = agr T (rw9 (S.1 1) 5) (rw9 (S.1 1) 4) (mulB (S.2.1 0) nine) (sft (gD c9) 1) (mulB (rw9 (S.1 1) 0) nine) sh := ⟨_, rfl⟩
  refine V_callV (M' := mX11_finishAgreement) (mc := 0) (ms := 0) (bc' := 0) (bs' := 0) rfl cw_X11_331 iv_X11_finishAgreement (by repeat (first | exact hup_eq | assumption | refine Eq.trans (hup_ne (by first | assumption | exact Ne.symm (by assumption) | decide | omega)) ?_)) rfl rfl (Nat.le_of_ble_eq_true rfl) ⟨Nat.le_of_ble_eq_true rfl, Nat.le_of_ble_eq_true rfl⟩ ⟨Nat.le_of_ble_eq_true rfl, Nat.le_of_ble_eq_true rfl⟩ (As := []) (c_finishAgreement (T := T) (Q := fun o G7 => o = .inl none ∧ FP (fun j => (15 ≤ j ∧ j ≤ 18) ∨ j = 128) G6 G7 ∧ hsr G7 ∧ Rb G7 128 32 H) hT g0 m1 (by simp [lst_len]) r127 c28 (fun G7 q0 q1 q2 => ⟨rfl, q0, q1, by rw [hH]; exact q2⟩)) (fun o G7 h => ?_) (fun E G' h => by cases h.1)
  obtain ⟨h0, F7, hhs, r128⟩ := h
  cases h0
  have FA := FA.trans F7 (fun x hx => by omega)
  have FT := FT.trans F7 (fun x hx => by omega)
  have g0 := F7.get (by omega) g0
  have x1 := F7.get (by omega) x1
  have i38 := F7.get (by omega) i38
  have k2 := k2.fp (F7.2 _ (by omega))
  have k3 := k3.fp (F7.2 _ (by omega))
  have r41 := r41.fp (F7.2 _ (by omega))
  have r42 := r42.fp (F7.2 _ (by omega))
  have hi := hi.fp (F7.2 _ (by omega)) (F7.2 _ (by omega))
  have hho := hho.fp (F7.2 _ (by omega))
  have c29 := F7.get (by omega) c29
  have co1 := F7.get (by omega) co1
  have co2 := F7.get (by omega) co2
  have ir := F7.get (by omega) ir
  have r126 := r126.fp (F7.2 _ (by omega))
  have r127 := r127.fp (F7.2 _ (by omega))
  have hcr := hcr.fp (fun j a c => F7.2 j (by omega))
  have g1 := hcr.1
  refine V_aload_n rfl (by first | rfl | assumption) ?_
  refine V_getf rfl rfl rfl (by repeat (first | exact hup_eq | assumption | refine Eq.trans (hup_ne (by first | assumption | exact Ne.symm (by assumption) | decide | omega)) ?_)) (by first | rfl | assumption) ?_
  refine V_aload_n rfl (by first | rfl | assumption) ?_
  refine V_getf rfl rfl rfl (by repeat (first | exact hup_eq | assumption | refine Eq.trans (hup_ne (by first | assumption | exact Ne.symm (by assumption) | decide | omega)) ?_)) (by first | rfl | assumption) ?_
  refine V_aload_n rfl (by first | rfl | assumption) ?_
  refine V_getf rfl rfl rfl (by repeat (first | exact hup_eq | assumption | refine Eq.trans (hup_ne (by first | assumption | exact Ne.symm (by assumption) | decide | omega)) ?_)) (by first | rfl | assumption) ?_
  refine V_getf rfl rfl rfl (by repeat (first | exact hup_eq | assumption | refine Eq.trans (hup_ne (by first | assumption | exact Ne.symm (by assumption) | decide | omega)) ?_)) (by first | rfl | assumption) ?_
  refine V_iconst (v := nI 1) rfl (by decide) ?_
  refine V_aload_n rfl (by first | rfl | assumption) ?_
  refine V_getf rfl rfl rfl (by repeat (first | exact hup_eq | assumption | refine Eq.trans (hup_ne (by first | assumption | exact Ne.symm (by assumption) | decide | omega)) ?_)) (by first | rfl | assumption) ?_
  refine V_callV (M' := mX0_times) (mc := 0) (ms := 0) (bc' := 0) (bs' := 0) rfl cw_X11_114 iv_X0_times (by repeat (first | exact hup_eq | assumption | refine Eq.trans (hup_ne (by first | assumption | exact Ne.symm (by assumption) | decide | omega)) ?_)) rfl rfl (Nat.le_of_ble_eq_true rfl) ⟨Nat.le_of_ble_eq_true rfl, Nat.le_of_ble_eq_true rfl⟩ ⟨Nat.le_of_ble_eq_true rfl, Nat.le_of_ble_eq_true rfl⟩ (As := [.ref 124, .ref 133, .int (nI 1), .ref 129]) (c_timesSg (Q := fun o G8 => o = .inl none ∧ FP (fun j => (2 ≤ j ∧ j ≤ 13) ∨ j = 129) G7 G8 ∧ crv G8 ∧ Rb G8 129 32 (mulB (S.2.1 0) (sft (gD c9) 1))) hcr (hho.sg (by decide)) (hi.sg (s := 1) (n := 32) (by decide) (by omega)) c29 (by decide) (fun G8 q0 q1 q2 => ⟨rfl, q0, q1, q2⟩)) (fun o G8 h => ?_) (fun E G' h => by cases h.1)
  obtain ⟨h0, F8, hcr, r129⟩ := h
  cases h0
  have FA := FA.trans F8 (fun x hx => by omega)
  have FT := FT.trans F8 (fun x hx => by omega)
  have g0 := F8.get (by omega) g0
  have x1 := F8.get (by omega) x1
  have i38 := F8.get (by omega) i38
  have k2 := k2.fp (F8.2 _ (by omega))
  have k3 := k3.fp (F8.2 _ (by omega))
  have r41 := r41.fp (F8.2 _ (by omega))
  have r42 := r42.fp (F8.2 _ (by omega))
  have hi := hi.fp (F8.2 _ (by omega)) (F8.2 _ (by omega))
  have hho := hho.fp (F8.2 _ (by omega))
  have co1 := F8.get (by omega) co1
  have co2 := F8.get (by omega) co2
  have ir := F8.get (by omega) ir
  have r126 := r126.fp (F8.2 _ (by omega))
  have r127 := r127.fp (F8.2 _ (by omega))
  have r128 := r128.fp (F8.2 _ (by omega))
  have hhs := hhs.fp (fun j a c => F8.2 j (by omega))
  refine V_aload_n rfl (by first | rfl | assumption) ?_
  refine V_callV (M' := mX11_makeProof) (mc := 0) (ms := 0) (bc' := 0) (bs' := 0) rfl cw_X11_334 iv_X11_makeProof (by repeat (first | exact hup_eq | assumption | refine Eq.trans (hup_ne (by first | assumption | exact Ne.symm (by assumption) | decide | omega)) ?_)) rfl rfl (Nat.le_of_ble_eq_true rfl) ⟨Nat.le_of_ble_eq_true rfl, Nat.le_of_ble_eq_true rfl⟩ ⟨Nat.le_of_ble_eq_true rfl, Nat.le_of_ble_eq_true rfl⟩ (As := []) (c_makeProof (T := T) (Q := fun o G9 => o = .inl none ∧ FP (fun j => (15 ≤ j ∧ j ≤ 18) ∨ j = 129) G8 G9 ∧ hsr G9 ∧ Rb G9 129 32 (prf T (mulB (S.2.1 0) (sft (gD c9) 1)) H)) hT g0 hhs r129 r128 (fun G9 q0 q1 q2 => ⟨rfl, q0, q1, q2⟩)) (fun o G9 h => ?_) (fun E G' h => by cases h.1)
  obtain ⟨h0, F9, hhs, r129⟩ := h
  cases h0
  have FA := FA.trans F9 (fun x hx => by omega)
  have FT := FT.trans F9 (fun x hx => by omega)
  have g0 := F9.get (by omega) g0
  have x1 := F9.get (by omega) x1
  have i38 := F9.get (by omega) i38
  have k2 := k2.fp (F9.2 _ (by omega))
  have k3 := k3.fp (F9.2 _ (by omega))
  have r41 := r41.fp (F9.2 _ (by omega))
  have r42 := r42.fp (F9.2 _ (by omega))
  have hi := hi.fp (F9.2 _ (by omega)) (F9.2 _ (by omega))
  have hho := hho.fp (F9.2 _ (by omega))
  have co1 := F9.get (by omega) co1
  have co2 := F9.get (by omega) co2
  have ir := F9.get (by omega) ir
  have r126 := r126.fp (F9.2 _ (by omega))
  have r127 := r127.fp (F9.2 _ (by omega))
  have r128 := r128.fp (F9.2 _ (by omega))
  have hcr := hcr.fp (fun j a c => F9.2 j (by omega))
  obtain ⟨pr, hpr⟩ : ∃ pr, pr = prf T (mulB (S.2.1 0) (sft (gD c9) 1)) H := ⟨_, rfl⟩
  rw [← hpr] at r129
  refine V_aload_n rfl (by first | rfl | assumption) ?_
  refine V_getf rfl rfl rfl (by repeat (first | exact hup_eq | assumption | refine Eq.trans (hup_ne (by first | assumption | exact Ne.symm (by assumption) | decide | omega)) ?_)) (by first | rfl | assumption) ?_
  refine V_callV (M' := mX6_clear) (mc := 0) (ms := 0) (bc' := 0) (bs' := 0) rfl cw_X11_139 iv_X6_clear (by repeat (first | exact hup_eq | assumption | refine Eq.trans (hup_ne (by first | assumption | exact Ne.symm (by assumption) | decide | omega)) ?_)) rfl rfl (Nat.le_of_ble_eq_true rfl) ⟨Nat.le_of_ble_eq_true rfl, Nat.le_of_ble_eq_true rfl⟩ ⟨Nat.le_of_ble_eq_true rfl, Nat.le_of_ble_eq_true rfl⟩ (As := []) (c_clearU (Q := fun o G10 => o = .inl none ∧ FP (fun j => j = 134) G9 G10 ∧ Rw G10 134 135 200 []) co1 co2 (fun G10 q0 q1 => ⟨rfl, q0, q1⟩)) (fun o G10 h => ?_) (fun E G' h => by cases h.1)
  obtain ⟨h0, F10, r1⟩ := h
  cases h0
  have FA := FA.trans F10 (fun x hx => by omega)
  have FT := FT.trans F10 (fun x hx => by omega)
  have g0 := F10.get (by omega) g0
  have x1 := F10.get (by omega) x1
  have i38 := F10.get (by omega) i38
  have k2 := k2.fp (F10.2 _ (by omega))
  have k3 := k3.fp (F10.2 _ (by omega))
  have r41 := r41.fp (F10.2 _ (by omega))
  have r42 := r42.fp (F10.2 _ (by omega))
  have hi := hi.fp (F10.2 _ (by omega)) (F10.2 _ (by omega))
  have hho := hho.fp (F10.2 _ (by omega))
  have ir := F10.get (by omega) ir
  have r126 := r126.fp (F10.2 _ (by omega))
  have r127 := r127.fp (F10.2 _ (by omega))
  have r128 := r128.fp (F10.2 _ (by omega))
  have hcr := hcr.fp (fun j a c => F10.2 j (by omega))
  have r129 := r129.fp (F10.2 _ (by omega))
  have hhs := hhs.fp (fun j a c => F10.2 j (by omega))
  have hr1 := r1.1
  refine V_aload_n rfl (by first | rfl | assumption) ?_
  refine V_getf rfl rfl rfl (by repeat (first | exact hup_eq | assumption | refine Eq.trans (hup_ne (by first | assumption | exact Ne.symm (by assumption) | decide | omega)) ?_)) (by first | rfl | assumption) ?_
  refine V_bipush (v := nI 31) rfl (by decide) ?_
  refine V_callV (M' := mX6_put) (mc := 0) (ms := 0) (bc' := 0) (bs' := 0) rfl cw_X11_84 iv_X6_put (by repeat (first | exact hup_eq | assumption | refine Eq.trans (hup_ne (by first | assumption | exact Ne.symm (by assumption) | decide | omega)) ?_)) rfl rfl (Nat.le_of_ble_eq_true rfl) ⟨Nat.le_of_ble_eq_true rfl, Nat.le_of_ble_eq_true rfl⟩ ⟨Nat.le_of_ble_eq_true rfl, Nat.le_of_ble_eq_true rfl⟩ (As := [.int (nI 31)]) (c_putL (x := 31) (Q := fun o G11 => o = .inl none ∧ FP (fun j => j = 134 ∨ j = 135) G10 G11 ∧ Rw G11 134 135 200 [31]) r1 (by decide) (by decide) (by decide) (fun G11 q0 q1 => ⟨rfl, q0, q1⟩)) (fun o G11 h => ?_) (fun E G' h => by cases h.1)
  obtain ⟨h0, F11, r1⟩ := h
  cases h0
  have FA := FA.trans F11 (fun x hx => by omega)
  have FT := FT.trans F11 (fun x hx => by omega)
  have g0 := F11.get (by omega) g0
  have x1 := F11.get (by omega) x1
  have i38 := F11.get (by omega) i38
  have k2 := k2.fp (F11.2 _ (by omega))
  have k3 := k3.fp (F11.2 _ (by omega))
  have r41 := r41.fp (F11.2 _ (by omega))
  have r42 := r42.fp (F11.2 _ (by omega))
  have hi := hi.fp (F11.2 _ (by omega)) (F11.2 _ (by omega))
  have hho := hho.fp (F11.2 _ (by omega))
  have ir := F11.get (by omega) ir
  have r126 := r126.fp (F11.2 _ (by omega))
  have r127 := r127.fp (F11.2 _ (by omega))
  have r128 := r128.fp (F11.2 _ (by omega))
  have hcr := hcr.fp (fun j a c => F11.2 j (by omega))
  have r129 := r129.fp (F11.2 _ (by omega))
  have hhs := hhs.fp (fun j a c => F11.2 j (by omega))
  have hr1 := r1.1
  refine V_aload_n rfl (by first | rfl | assumption) ?_
  refine V_getf rfl rfl rfl (by repeat (first | exact hup_eq | assumption | refine Eq.trans (hup_ne (by first | assumption | exact Ne.symm (by assumption) | decide | omega)) ?_)) (by first | rfl | assumption) ?_
  refine V_aload_n rfl (by first | rfl | assumption) ?_
  refine V_getf rfl rfl rfl (by repeat (first | exact hup_eq | assumption | refine Eq.trans (hup_ne (by first | assumption | exact Ne.symm (by assumption) | decide | omega)) ?_)) (by first | rfl | assumption) ?_
  refine V_iconst (v := nI 0) rfl (by decide) ?_
  refine V_bipush (v := nI 32) rfl (by decide) ?_
  refine V_callV (M' := mX6_putAll) (mc := 0) (ms := 0) (bc' := 0) (bs' := 0) rfl cw_X11_143 iv_X6_putAll (by repeat (first | exact hup_eq | assumption | refine Eq.trans (hup_ne (by first | assumption | exact Ne.symm (by assumption) | decide | omega)) ?_)) rfl rfl (Nat.le_of_ble_eq_true rfl) ⟨Nat.le_of_ble_eq_true rfl, Nat.le_of_ble_eq_true rfl⟩ ⟨Nat.le_of_ble_eq_true rfl, Nat.le_of_ble_eq_true rfl⟩ (As := [.ref 126, .int (nI 0), .int (nI 32)]) (c_putSg (Q := fun o G12 => o = .inl none ∧ FP (fun j => j = 134 ∨ j = 135) G11 G12 ∧ Rw G12 134 135 200 (31 :: lst (mulB (S.2.1 0) nine) 32)) r1 (r126.sg (by decide)) (by decide) (by decide) (fun G12 q0 q1 => ⟨rfl, q0, q1⟩)) (fun o G12 h => ?_) (fun E G' h => by cases h.1)
  obtain ⟨h0, F12, r1⟩ := h
  cases h0
  have FA := FA.trans F12 (fun x hx => by omega)
  have FT := FT.trans F12 (fun x hx => by omega)
  have g0 := F12.get (by omega) g0
  have x1 := F12.get (by omega) x1
  have i38 := F12.get (by omega) i38
  have k2 := k2.fp (F12.2 _ (by omega))
  have k3 := k3.fp (F12.2 _ (by omega))
  have r41 := r41.fp (F12.2 _ (by omega))
  have r42 := r42.fp (F12.2 _ (by omega))
  have hi := hi.fp (F12.2 _ (by omega)) (F12.2 _ (by omega))
  have hho := hho.fp (F12.2 _ (by omega))
  have ir := F12.get (by omega) ir
  have r126 := r126.fp (F12.2 _ (by omega))
  have r127 := r127.fp (F12.2 _ (by omega))
  have r128 := r128.fp (F12.2 _ (by omega))
  have hcr := hcr.fp (fun j a c => F12.2 j (by omega))
  have r129 := r129.fp (F12.2 _ (by omega))
  have hhs := hhs.fp (fun j a c => F12.2 j (by omega))
  have hr1 := r1.1
  refine V_aload_n rfl (by first | rfl | assumption) ?_
  refine V_getf rfl rfl rfl (by repeat (first | exact hup_eq | assumption | refine Eq.trans (hup_ne (by first | assumption | exact Ne.symm (by assumption) | decide | omega)) ?_)) (by first | rfl | assumption) ?_
  refine V_aload_n rfl (by first | rfl | assumption) ?_
  refine V_getf rfl rfl rfl (by repeat (first | exact hup_eq | assumption | refine Eq.trans (hup_ne (by first | assumption | exact Ne.symm (by assumption) | decide | omega)) ?_)) (by first | rfl | assumption) ?_
  refine V_iconst (v := nI 0) rfl (by decide) ?_
  refine V_bipush (v := nI 32) rfl (by decide) ?_
  refine V_callV (M' := mX6_putAll) (mc := 0) (ms := 0) (bc' := 0) (bs' := 0) rfl cw_X11_143 iv_X6_putAll (by repeat (first | exact hup_eq | assumption | refine Eq.trans (hup_ne (by first | assumption | exact Ne.symm (by assumption) | decide | omega)) ?_)) rfl rfl (Nat.le_of_ble_eq_true rfl) ⟨Nat.le_of_ble_eq_true rfl, Nat.le_of_ble_eq_true rfl⟩ ⟨Nat.le_of_ble_eq_true rfl, Nat.le_of_ble_eq_true rfl⟩ (As := [.ref (78 + 42), .int (nI 0), .int (nI 32)]) (c_putSg (Q := fun o G13 => o = .inl none ∧ FP (fun j => j = 134 ∨ j = 135) G12 G13 ∧ Rw G13 134 135 200 (31 :: (lst (mulB (S.2.1 0) nine) 32 ++ lst (mulB (rw9 (S.1 1) 0) nine) 32))) r1 (r42.sg (by decide)) (by simp [lst_len]) (by decide) (fun G13 q0 q1 => ⟨rfl, q0, q1⟩)) (fun o G13 h => ?_) (fun E G' h => by cases h.1)
  obtain ⟨h0, F13, r1⟩ := h
  cases h0
  have FA := FA.trans F13 (fun x hx => by omega)
  have FT := FT.trans F13 (fun x hx => by omega)
  have g0 := F13.get (by omega) g0
  have x1 := F13.get (by omega) x1
  have i38 := F13.get (by omega) i38
  have k2 := k2.fp (F13.2 _ (by omega))
  have k3 := k3.fp (F13.2 _ (by omega))
  have r41 := r41.fp (F13.2 _ (by omega))
  have r42 := r42.fp (F13.2 _ (by omega))
  have hi := hi.fp (F13.2 _ (by omega)) (F13.2 _ (by omega))
  have hho := hho.fp (F13.2 _ (by omega))
  have ir := F13.get (by omega) ir
  have r126 := r126.fp (F13.2 _ (by omega))
  have r127 := r127.fp (F13.2 _ (by omega))
  have r128 := r128.fp (F13.2 _ (by omega))
  have hcr := hcr.fp (fun j a c => F13.2 j (by omega))
  have r129 := r129.fp (F13.2 _ (by omega))
  have hhs := hhs.fp (fun j a c => F13.2 j (by omega))
  have hr1 := r1.1
  refine V_aload_n rfl (by first | rfl | assumption) ?_
  refine V_getf rfl rfl rfl (by repeat (first | exact hup_eq | assumption | refine Eq.trans (hup_ne (by first | assumption | exact Ne.symm (by assumption) | decide | omega)) ?_)) (by first | rfl | assumption) ?_
  refine V_aload_n rfl (by first | rfl | assumption) ?_
  refine V_getf rfl rfl rfl (by repeat (first | exact hup_eq | assumption | refine Eq.trans (hup_ne (by first | assumption | exact Ne.symm (by assumption) | decide | omega)) ?_)) (by first | rfl | assumption) ?_
  refine V_iconst (v := nI 0) rfl (by decide) ?_
  refine V_bipush (v := nI 32) rfl (by decide) ?_
  refine V_callV (M' := mX6_putAll) (mc := 0) (ms := 0) (bc' := 0) (bs' := 0) rfl cw_X11_143 iv_X6_putAll (by repeat (first | exact hup_eq | assumption | refine Eq.trans (hup_ne (by first | assumption | exact Ne.symm (by assumption) | decide | omega)) ?_)) rfl rfl (Nat.le_of_ble_eq_true rfl) ⟨Nat.le_of_ble_eq_true rfl, Nat.le_of_ble_eq_true rfl⟩ ⟨Nat.le_of_ble_eq_true rfl, Nat.le_of_ble_eq_true rfl⟩ (As := [.ref 129, .int (nI 0), .int (nI 32)]) (c_putSg (Q := fun o G14 => o = .inl none ∧ FP (fun j => j = 134 ∨ j = 135) G13 G14 ∧ Rw G14 134 135 200 (31 :: (lst (mulB (S.2.1 0) nine) 32 ++ lst (mulB (rw9 (S.1 1) 0) nine) 32 ++ lst pr 32))) r1 (r129.sg (by decide)) (by simp [lst_len]) (by decide) (fun G14 q0 q1 => ⟨rfl, q0, q1⟩)) (fun o G14 h => ?_) (fun E G' h => by cases h.1)
  obtain ⟨h0, F14, r1⟩ := h
  cases h0
  have FA := FA.trans F14 (fun x hx => by omega)
  have FT := FT.trans F14 (fun x hx => by omega)
  have g0 := F14.get (by omega) g0
  have x1 := F14.get (by omega) x1
  have i38 := F14.get (by omega) i38
  have k2 := k2.fp (F14.2 _ (by omega))
  have k3 := k3.fp (F14.2 _ (by omega))
  have r41 := r41.fp (F14.2 _ (by omega))
  have r42 := r42.fp (F14.2 _ (by omega))
  have hi := hi.fp (F14.2 _ (by omega)) (F14.2 _ (by omega))
  have hho := hho.fp (F14.2 _ (by omega))
  have ir := F14.get (by omega) ir
  have r126 := r126.fp (F14.2 _ (by omega))
  have r127 := r127.fp (F14.2 _ (by omega))
  have r128 := r128.fp (F14.2 _ (by omega))
  have hcr := hcr.fp (fun j a c => F14.2 j (by omega))
  have r129 := r129.fp (F14.2 _ (by omega))
  have hhs := hhs.fp (fun j a c => F14.2 j (by omega))
  have RT := R1.tl FT hcr hhs (fun q a b => by
    have : q = 126 ∨ q = 127 ∨ q = 128 ∨ q = 129 := by omega
    rcases this with rfl | rfl | rfl | rfl
    · exact r126.c
    · exact r127.c
    · exact r128.c
    · exact r129.c) r1.ex
  have hn1 : nm ((sE S 1 s1).1 1) 0 < 2 ^ 30 := by rw [sE_get, hs1]; exact hsent
  refine V_aload_n rfl (by first | rfl | assumption) ?_
  refine V_aload_n rfl (by first | rfl | assumption) ?_
  refine V_getf rfl rfl rfl (by repeat (first | exact hup_eq | assumption | refine Eq.trans (hup_ne (by first | assumption | exact Ne.symm (by assumption) | decide | omega)) ?_)) (by first | rfl | assumption) ?_
  refine V_callV (M' := mX11_emit) (mc := 0) (ms := 0) (bc' := 0) (bs' := 0) rfl cw_X11_184 iv_X11_emit (by repeat (first | exact hup_eq | assumption | refine Eq.trans (hup_ne (by first | assumption | exact Ne.symm (by assumption) | decide | omega)) ?_)) rfl rfl (Nat.le_of_ble_eq_true rfl) ⟨Nat.le_of_ble_eq_true rfl, Nat.le_of_ble_eq_true rfl⟩ ⟨Nat.le_of_ble_eq_true rfl, Nat.le_of_ble_eq_true rfl⟩ (As := [.ref 78]) (c_emit (T := T) (S := sE S 1 s1) (e := 1) (p := (31 :: (lst (mulB (S.2.1 0) nine) 32 ++ lst (mulB (rw9 (S.1 1) 0) nine) 32 ++ lst pr 32))) (Q := fun o G15 => o = .inl none ∧ FP (fun j => 19 ≤ j ∧ j ≤ 123) G14 G15 ∧ RC (emt T (sE S 1 s1) 1 (31 :: (lst (mulB (S.2.1 0) nine) 32 ++ lst (mulB (rw9 (S.1 1) 0) nine) 32 ++ lst pr 32))) G15) (by decide) hT RT r1 (by omega) (fun G15 q0 q1 => ⟨rfl, q0, q1⟩)) (fun o G15 h => ?_) (fun E G' h => by cases h.1)
  obtain ⟨h0, F15, RT⟩ := h
  cases h0
  have FA := FA.trans F15 (fun x hx => by omega)
  have g0 := F15.get (by omega) g0
  have r127 := r127.fp (F15.2 _ (by omega))
  have r128 := r128.fp (F15.2 _ (by omega))
  obtain ⟨S2, hS2⟩ : ∃ S2, S2 = emt T (sE S 1 s1) 1 (31 :: (lst (mulB (S.2.1 0) nine) 32 ++ lst (mulB (rw9 (S.1 1) 0) nine) 32 ++ lst pr 32)) := ⟨_, rfl⟩
  have hn2 : nm (S2.1 1) 0 < 2 ^ 30 + 1 := by
    rw [hS2]
    have := emt_nm (T := T) (S := sE S 1 s1) (e := 1) (k := 1) (p := (31 :: (lst (mulB (S.2.1 0) nine) 32 ++ lst (mulB (rw9 (S.1 1) 0) nine) 32 ++ lst pr 32)))
    omega
  rw [← hS2] at RT
  obtain ⟨mo, bo, co1, co2⟩ := RT.1.2.2.2.2.2.2.2.2.1
  refine V_aload_n rfl (by first | rfl | assumption) ?_
  refine V_bipush (v := nI 21) rfl (by decide) ?_
  refine V_callV (M' := mX11_writeSingle) (mc := 0) (ms := 0) (bc' := 0) (bs' := 0) rfl cw_X11_262 iv_X11_writeSingle (by repeat (first | exact hup_eq | assumption | refine Eq.trans (hup_ne (by first | assumption | exact Ne.symm (by assumption) | decide | omega)) ?_)) rfl rfl (Nat.le_of_ble_eq_true rfl) ⟨Nat.le_of_ble_eq_true rfl, Nat.le_of_ble_eq_true rfl⟩ ⟨Nat.le_of_ble_eq_true rfl, Nat.le_of_ble_eq_true rfl⟩ (As := [.int (nI 21)]) (c_writeSingle (x := 21) (Q := fun o G16 => o = .inl none ∧ FP (fun j => j = 134 ∨ j = 135) G15 G16 ∧ Rw G16 134 135 200 [21]) g0 co1 co2 (by decide) (fun G16 q0 q1 => ⟨rfl, q0, q1⟩)) (fun o G16 h => ?_) (fun E G' h => by cases h.1)
  obtain ⟨h0, F16, r1⟩ := h
  cases h0
  have FA := FA.trans F16 (fun x hx => by omega)
  have g0 := F16.get (by omega) g0
  have r127 := r127.fp (F16.2 _ (by omega))
  have r128 := r128.fp (F16.2 _ (by omega))
  have RT := RT.out F16 r1
  refine V_aload_n rfl (by first | rfl | assumption) ?_
  refine V_aload_n rfl (by first | rfl | assumption) ?_
  refine V_getf rfl rfl rfl (by repeat (first | exact hup_eq | assumption | refine Eq.trans (hup_ne (by first | assumption | exact Ne.symm (by assumption) | decide | omega)) ?_)) (by first | rfl | assumption) ?_
  refine V_callV (M' := mX11_emit) (mc := 0) (ms := 0) (bc' := 0) (bs' := 0) rfl cw_X11_184 iv_X11_emit (by repeat (first | exact hup_eq | assumption | refine Eq.trans (hup_ne (by first | assumption | exact Ne.symm (by assumption) | decide | omega)) ?_)) rfl rfl (Nat.le_of_ble_eq_true rfl) ⟨Nat.le_of_ble_eq_true rfl, Nat.le_of_ble_eq_true rfl⟩ ⟨Nat.le_of_ble_eq_true rfl, Nat.le_of_ble_eq_true rfl⟩ (As := [.ref 78]) (c_emit (T := T) (S := S2) (e := 1) (p := [21]) (Q := fun o G17 => o = .inl none ∧ FP (fun j => 19 ≤ j ∧ j ≤ 123) G16 G17 ∧ RC (emt T S2 1 [21]) G17) (by decide) hT RT r1 (by omega) (fun G17 q0 q1 => ⟨rfl, q0, q1⟩)) (fun o G17 h => ?_) (fun E G' h => by cases h.1)
  obtain ⟨h0, F17, RT⟩ := h
  cases h0
  have FA := FA.trans F17 (fun x hx => by omega)
  have g0 := F17.get (by omega) g0
  have r127 := r127.fp (F17.2 _ (by omega))
  have r128 := r128.fp (F17.2 _ (by omega))
  refine V_aload_n rfl (by first | rfl | assumption) ?_
  refine V_aload_n rfl (by first | rfl | assumption) ?_
  refine V_getf rfl rfl rfl (by repeat (first | exact hup_eq | assumption | refine Eq.trans (hup_ne (by first | assumption | exact Ne.symm (by assumption) | decide | omega)) ?_)) (by first | rfl | assumption) ?_
  refine V_bipush (v := nI 67) rfl (by decide) ?_
  refine V_bipush (v := nI 65) rfl (by decide) ?_
  refine V_callV (M' := mX11_turnToNewKeys) (mc := 0) (ms := 0) (bc' := 0) (bs' := 0) rfl cw_X11_337 iv_X11_turnToNewKeys (by repeat (first | exact hup_eq | assumption | refine Eq.trans (hup_ne (by first | assumption | exact Ne.symm (by assumption) | decide | omega)) ?_)) rfl rfl (Nat.le_of_ble_eq_true rfl) ⟨Nat.le_of_ble_eq_true rfl, Nat.le_of_ble_eq_true rfl⟩ ⟨Nat.le_of_ble_eq_true rfl, Nat.le_of_ble_eq_true rfl⟩ (As := [.ref 78, .int (nI 67), .int (nI 65)]) (c_turnToNewKeys (T := T) (S := emt T S2 1 [21]) (e := 1) (Q := fun o G18 => o = .inl none ∧ FP (fun j => (15 ≤ j ∧ j ≤ 18) ∨ (32 ≤ j ∧ j ≤ 123)) G17 G18 ∧ RC (sE (emt T S2 1 [21]) 1 (tnk T ((emt T S2 1 [21]).1 1) sh H 67 65)) G18) (by decide) hT RT r127 r128 (by decide) (fun G18 q0 q1 => ⟨rfl, q0, q1⟩)) (fun o G18 h => ?_) (fun E G' h => by cases h.1)
  obtain ⟨h0, F18, RT⟩ := h
  cases h0
  have FA := FA.trans F18 (fun x hx => by omega)
  refine V_vret rfl rfl (hq _ FA ?_)
  unfold onR
  simp only [hE2, sE_get, h13, h15, h14, hpb]
  rw [← hsh, ← hH, ← hpr, ← hS2]
  exact RT

end CClass7
