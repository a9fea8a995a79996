section CClass8
variable {K : kK} {G : kG} {Q : kO → kG → Prop}
theorem c_differsL {r d N a s L : Nat} {l : List Nat} {g : Nat → Nat} (hr : Rw G r d N l) (ha : Rb G a L g) (hs : s + L ≤ l.length) (hN : N < 2 ^ 20) (hq : Q (.inl (some (.int (if lst (sft (gD l) s) L = lst g L then 0 else 1)))) G) : C K 0 0 mX6_differsAt [.ref r, .int (nI s), .ref a] G Q := by
  obtain ⟨h1, h2, b, h3, h4, h5⟩ := hr
  obtain ⟨x, k1, k2, k3⟩ := ha
  refine c_Row_differsAt h1 h3 k1 h2 hs (by omega) ?_
  have e := difA_lst (f := b) (g := x) (s := s) (L := L) (fun j hj => h5 _ (by omega)) (fun j hj => by rw [k2 j hj]; exact k3 j hj)
  have e1 : lst (fun j => b (s + j)) L = lst (sft (gD l) s) L := lst_congr (fun j hj => by unfold sft; rw [gD_of h4 (by omega)])
  have e2 : lst x L = lst g L := lst_congr k2
  rw [e1, e2] at e
  by_cases c : lst (sft (gD l) s) L = lst g L
  · rw [if_pos c] at hq
    rw [e.mpr c]
    exact hq
  · rw [if_neg c] at hq
    rcases difA_01 (fun j => nI (b j)) (fun j => nI (x j)) s L with z | z
    · exact absurd (e.mp z) c
    · rw [z]; exact hq
set_option maxHeartbeats 32000000 in
theorem c_acceptReply {S : SG} {c9 : List Nat} {T : TB} (hT : tbl K T) (h : RC S G) (h4 : fl (S.1 0) 4 = true) (hi : Rw G 132 133 200 c9) (hc : 97 ≤ c9.length) (hsent : nm (S.1 0) 0 < 2 ^ 30) (hq : ∀ G' ok, FP (fun j => (2 ≤ j ∧ j ≤ 13) ∨ (15 ≤ j ∧ j ≤ 123) ∨ (126 ≤ j ∧ j ≤ 129) ∨ j = 134 ∨ j = 135) G G' → (ok = true → RC (aRp T S c9) G') → (ok = false → RC (sE S 0 (sfl (S.1 0) 8 true)) G' ∧ aRp T S c9 = gvu T (sE S 0 (sfl (S.1 0) 8 true)) 0) → Q (.inl (some (.int (bI ok)))) G') : C K 0 0 mX11_acceptReply [.ref 0] G Q := by
  obtain ⟨tp, sp, g0⟩ := h.sw
  have R32 : RE 32 (S.1 0) G := h.2 0 (by decide)
  obtain ⟨x1, x2, -, -, -, -, -, k1, k2, k3, r41, ⟨pf, ⟨p9, p1, p2, p3⟩, p4⟩, ⟨mk, k6, k6'⟩, k7, k8⟩ := id R32
  have r42 : Rb G (32 + 42) 32 (pub (S.1 0)) := ⟨p9, p1, fun j hj => by rw [p2 j hj]; exact p4 h4 j hj, fun j hj => mulB_lt _ _ j⟩
  have hcr := h.1.1
  have hhs := h.1.2.1
  have htr := h.1.2.2.2.2.1
  have FA : FP (fun j => (2 ≤ j ∧ j ≤ 13) ∨ (15 ≤ j ∧ j ≤ 123) ∨ (126 ≤ j ∧ j ≤ 129) ∨ j = 134 ∨ j = 135) G G := FP.rf
  refine C_of okX11_acceptReply (Nat.le_of_ble_eq_true rfl) ?_
  refine V_aload_n rfl (by first | rfl | assumption) ?_
  refine V_getf rfl rfl rfl (by repeat (first | exact hup_eq | assumption | refine Eq.trans (hup_ne (by first | assumption | exact Ne.symm (by assumption) | decide | omega)) ?_)) (by first | rfl | assumption) ?_
  refine V_getf rfl rfl rfl (by repeat (first | exact hup_eq | assumption | refine Eq.trans (hup_ne (by first | assumption | exact Ne.symm (by assumption) | decide | omega)) ?_)) (by first | rfl | assumption) ?_
  refine V_astore_n rfl (by decide) ?_
  refine V_aload_n rfl (by first | rfl | assumption) ?_
  refine V_iconst (v := nI 1) rfl (by decide) ?_
  refine V_putf rfl rfl rfl rfl (by repeat (first | exact hup_eq | assumption | refine Eq.trans (hup_ne (by first | assumption | exact Ne.symm (by assumption) | decide | omega)) ?_)) (Nat.le_of_ble_eq_true rfl) (by first | exact ⟨rfl, rfl⟩ | (constructor <;> decide)) ?_
  show V K 0 0 _ _ _ _ (hup G (32 + 38) (XO 32 (fl (S.1 0) 2) (fl (S.1 0) 3) (fl (S.1 0) 4) true (fl (S.1 0) 5))) Q
  obtain ⟨G1, hG1⟩ : ∃ G1, G1 = hup G (32 + 38) (XO 32 (fl (S.1 0) 2) (fl (S.1 0) 3) (fl (S.1 0) 4) true (fl (S.1 0) 5)) := ⟨_, rfl⟩
  rw [← hG1]
  have F1 : FP (fun j => j = 70) G G1 := by rw [hG1]; exact FP.rf.hup rfl
  have i38 : G1.1 (32 + 38) = some (XO 32 (fl (S.1 0) 2) (fl (S.1 0) 3) (fl (S.1 0) 4) true (fl (S.1 0) 5)) := by rw [hG1]; exact hup_eq
  clear hG1

  have FA := FA.trans F1 (fun x hx => by omega)
  have g0 := F1.get (by omega) g0
  have x1 := F1.get (by omega) x1
  have x2 := x2.fp (F1.2 _ (by omega))
  have k2 := k2.fp (F1.2 _ (by omega))
  have k3 := k3.fp (F1.2 _ (by omega))
  have r41 := r41.fp (F1.2 _ (by omega))
  have r42 := r42.fp (F1.2 _ (by omega))
  have k6 := F1.get (by omega) k6
  have k7 := k7.fp (F1.2 _ (by omega))
  have k8 := k8.fp (F1.2 _ (by omega))
  have hi := hi.fp (F1.2 _ (by omega)) (F1.2 _ (by omega))
  have htr := htr.fp (F1.2 _ (by omega))
  have hcr := hcr.fp (fun j a c => F1.2 j (by omega))
  have hhs := hhs.fp (fun j a c => F1.2 j (by omega))
  obtain ⟨s1, hs1⟩ : ∃ s1, s1 = sfl (S.1 0) 8 true := ⟨_, rfl⟩
  have hpb : pub s1 = pub (S.1 0) := by rw [hs1]; rfl
  have h1r : rw9 s1 = rw9 (S.1 0) := by rw [hs1]; rfl
  have R1 : RC (sE S 0 s1) G1 := by
    refine h.x (e := 0) (by decide) (F1.sub (fun x hx => by have hE0 : EB 0 = 32 := rfl; omega)) hcr ⟨?_, ?_, ?_, ?_, ?_, ?_, ?_, ?_⟩ (fun k hk => by rw [hs1]; exact up_ne (by omega)) (fun k hk => by rw [hs1]; rfl) (by rw [hs1]; exact ⟨rfl, rfl, rfl, rfl⟩)
    · rw [hs1]; exact i38
    · rw [h1r]; exact k2
    · rw [h1r]; exact k3
    · rw [h1r]; exact r41
    · exact ⟨_, r42, fun _ j _ => by rw [hpb]⟩
    · rw [hs1]; exact ⟨mk, k6, k6'⟩
    · rw [h1r]; exact k7
    · rw [h1r]; exact k8
  have FT : FP (fun j => (2 ≤ j ∧ j ≤ 13) ∨ (15 ≤ j ∧ j ≤ 18) ∨ (126 ≤ j ∧ j ≤ 129) ∨ j = 134 ∨ j = 135) G1 G1 := FP.rf
  obtain ⟨b26, c26⟩ := R1.1.2.2.2.2.2.1 126 (by decide) (by decide)
  obtain ⟨b27, c27⟩ := R1.1.2.2.2.2.2.1 127 (by decide) (by decide)
  obtain ⟨b28, c28⟩ := R1.1.2.2.2.2.2.1 128 (by decide) (by decide)
  obtain ⟨b29, c29⟩ := R1.1.2.2.2.2.2.1 129 (by decide) (by decide)
  obtain ⟨mo, bo, co1, co2⟩ := R1.1.2.2.2.2.2.2.2.2.1
  have ir := hi.1
  have g1 := hcr.1
  refine V_aload_n rfl (by first | rfl | assumption) ?_
  refine V_getf rfl rfl rfl (by repeat (first | exact hup_eq | assumption | refine Eq.trans (hup_ne (by first | assumption | exact Ne.symm (by assumption) | decide | omega)) ?_)) (by first | rfl | assumption) ?_
  refine V_aload_n rfl (by first | rfl | assumption) ?_
  refine V_getf rfl rfl rfl (by repeat (first | exact hup_eq | assumption | refine Eq.trans (hup_ne (by first | assumption | exact Ne.symm (by assumption) | decide | omega)) ?_)) (by first | rfl | assumption) ?_
  refine V_aload_n rfl (by first | rfl | assumption) ?_
  refine V_getf rfl rfl rfl (by repeat (first | exact hup_eq | assumption | refine Eq.trans (hup_ne (by first | assumption | exact Ne.symm (by assumption) | decide | omega)) ?_)) (by first | rfl | assumption) ?_
  refine V_getf rfl rfl rfl (by repeat (first | exact hup_eq | assumption | refine Eq.trans (hup_ne (by first | assumption | exact Ne.symm (by assumption) | decide | omega)) ?_)) (by first | rfl | assumption) ?_
  refine V_bipush (v := nI 33) rfl (by decide) ?_
  refine V_aload_n rfl (by first | rfl | assumption) ?_
  refine V_getf rfl rfl rfl (by repeat (first | exact hup_eq | assumption | refine Eq.trans (hup_ne (by first | assumption | exact Ne.symm (by assumption) | decide | omega)) ?_)) (by first | rfl | assumption) ?_
  refine V_callV (M' := mX0_times) (mc := 0) (ms := 0) (bc' := 0) (bs' := 0) rfl cw_X11_114 iv_X0_times (by repeat (first | exact hup_eq | assumption | refine Eq.trans (hup_ne (by first | assumption | exact Ne.symm (by assumption) | decide | omega)) ?_)) rfl rfl (Nat.le_of_ble_eq_true rfl) ⟨Nat.le_of_ble_eq_true rfl, Nat.le_of_ble_eq_true rfl⟩ ⟨Nat.le_of_ble_eq_true rfl, Nat.le_of_ble_eq_true rfl⟩ (As := [.ref (32 + 41), .ref 133, .int (nI 33), .ref 127]) (c_timesSg (Q := fun o G2 => o = .inl none ∧ FP (fun j => (2 ≤ j ∧ j ≤ 13) ∨ j = 127) G1 G2 ∧ crv G2 ∧ Rb G2 127 32 (mulB (rw9 (S.1 0) 3) (sft (gD c9) 33))) hcr (r41.sg (by decide)) (hi.sg (s := 33) (n := 32) (by decide) (by omega)) c27 (by decide) (fun G2 q0 q1 q2 => ⟨rfl, q0, q1, q2⟩)) (fun o G2 h => ?_) (fun E G' h => by cases h.1)
  obtain ⟨h0, F2, hcr, r127⟩ := h
  cases h0
  have FA := FA.trans F2 (fun x hx => by omega)
  have FT := FT.trans F2 (fun x hx => by omega)
  have g0 := F2.get (by omega) g0
  have x1 := F2.get (by omega) x1
  have i38 := F2.get (by omega) i38
  have k2 := k2.fp (F2.2 _ (by omega))
  have k3 := k3.fp (F2.2 _ (by omega))
  have r41 := r41.fp (F2.2 _ (by omega))
  have r42 := r42.fp (F2.2 _ (by omega))
  have hi := hi.fp (F2.2 _ (by omega)) (F2.2 _ (by omega))
  have htr := htr.fp (F2.2 _ (by omega))
  have hhs := hhs.fp (fun j a c => F2.2 j (by omega))
  have c26 := F2.get (by omega) c26
  have c28 := F2.get (by omega) c28
  have c29 := F2.get (by omega) c29
  have co1 := F2.get (by omega) co1
  have co2 := F2.get (by omega) co2
  have ir := F2.get (by omega) ir
  obtain ⟨sh, hsh⟩ : ∃ sh, sh = mulB (rw9 (S.1 0) 3) (sft (gD c9) 33) := ⟨_, rfl⟩
  rw [← hsh] at r127
  refine V_aload_n rfl (by first | rfl | assumption) ?_
  refine V_aload_n rfl (by first | rfl | assumption) ?_
  refine V_getf rfl rfl rfl (by repeat (first | exact hup_eq | assumption | refine Eq.trans (hup_ne (by first | assumption | exact Ne.symm (by assumption) | decide | omega)) ?_)) (by first | rfl | assumption) ?_
  refine V_aload_n rfl (by first | rfl | assumption) ?_
  refine V_getf rfl rfl rfl (by repeat (first | exact hup_eq | assumption | refine Eq.trans (hup_ne (by first | assumption | exact Ne.symm (by assumption) | decide | omega)) ?_)) (by first | rfl | assumption) ?_
  refine V_aload_n rfl (by first | rfl | assumption) ?_
  refine V_getf rfl rfl rfl (by repeat (first | exact hup_eq | assumption | refine Eq.trans (hup_ne (by first | assumption | exact Ne.symm (by assumption) | decide | omega)) ?_)) (by first | rfl | assumption) ?_
  refine V_getf rfl rfl rfl (by repeat (first | exact hup_eq | assumption | refine Eq.trans (hup_ne (by first | assumption | exact Ne.symm (by assumption) | decide | omega)) ?_)) (by first | rfl | assumption) ?_
  refine V_iconst (v := nI 1) rfl (by decide) ?_
  refine V_callV (M' := mX11_startAgreement) (mc := 0) (ms := 0) (bc' := 0) (bs' := 0) rfl cw_X11_327 iv_X11_startAgreement (by repeat (first | exact hup_eq | assumption | refine Eq.trans (hup_ne (by first | assumption | exact Ne.symm (by assumption) | decide | omega)) ?_)) rfl rfl (Nat.le_of_ble_eq_true rfl) ⟨Nat.le_of_ble_eq_true rfl, Nat.le_of_ble_eq_true rfl⟩ ⟨Nat.le_of_ble_eq_true rfl, Nat.le_of_ble_eq_true rfl⟩ (As := [.ref (32 + 39), .ref (32 + 40), .ref 133, .int (nI 1)]) (c_startAgreement (Q := fun o G3 => o = .inl none ∧ FP (fun j => j = 17 ∨ j = 18) G2 G3 ∧ HM G3 (lst (rw9 (S.1 0) 4) 9 ++ lst (rw9 (S.1 0) 5) 9 ++ lst (sft (gD c9) 1) 32)) g0 hhs (k2.sg (by decide)) (k3.sg (by decide)) (hi.sg (s := 1) (n := 32) (by decide) (by omega)) (by decide) (fun G3 q0 q1 => ⟨rfl, q0, q1⟩)) (fun o G3 h => ?_) (fun E G' h => by cases h.1)
  obtain ⟨h0, F3, m1⟩ := h
  cases h0
  have FA := FA.trans F3 (fun x hx => by omega)
  have FT := FT.trans F3 (fun x hx => by omega)
  have g0 := F3.get (by omega) g0
  have x1 := F3.get (by omega) x1
  have i38 := F3.get (by omega) i38
  have k2 := k2.fp (F3.2 _ (by omega))
  have k3 := k3.fp (F3.2 _ (by omega))
  have r41 := r41.fp (F3.2 _ (by omega))
  have r42 := r42.fp (F3.2 _ (by omega))
  have hi := hi.fp (F3.2 _ (by omega)) (F3.2 _ (by omega))
  have htr := htr.fp (F3.2 _ (by omega))
  have c26 := F3.get (by omega) c26
  have c28 := F3.get (by omega) c28
  have c29 := F3.get (by omega) c29
  have co1 := F3.get (by omega) co1
  have co2 := F3.get (by omega) co2
  have ir := F3.get (by omega) ir
  have r127 := r127.fp (F3.2 _ (by omega))
  have hcr := hcr.fp (fun j a c => F3.2 j (by omega))
  have g14 := m1.1
  refine V_aload_n rfl (by first | rfl | assumption) ?_
  refine V_getf rfl rfl rfl (by repeat (first | exact hup_eq | assumption | refine Eq.trans (hup_ne (by first | assumption | exact Ne.symm (by assumption) | decide | omega)) ?_)) (by first | rfl | assumption) ?_
  refine V_aload_n rfl (by first | rfl | assumption) ?_
  refine V_getf rfl rfl rfl (by repeat (first | exact hup_eq | assumption | refine Eq.trans (hup_ne (by first | assumption | exact Ne.symm (by assumption) | decide | omega)) ?_)) (by first | rfl | assumption) ?_
  refine V_iconst (v := nI 0) rfl (by decide) ?_
  refine V_bipush (v := nI 32) rfl (by decide) ?_
  refine V_callV (M' := mX3_addRow) (mc := 0) (ms := 0) (bc' := 0) (bs' := 0) rfl cw_X11_121 iv_X3_addRow (by repeat (first | exact hup_eq | assumption | refine Eq.trans (hup_ne (by first | assumption | exact Ne.symm (by assumption) | decide | omega)) ?_)) rfl rfl (Nat.le_of_ble_eq_true rfl) ⟨Nat.le_of_ble_eq_true rfl, Nat.le_of_ble_eq_true rfl⟩ ⟨Nat.le_of_ble_eq_true rfl, Nat.le_of_ble_eq_true rfl⟩ (As := [.ref (32 + 42), .int (nI 0), .int (nI 32)]) (c_addSg (Q := fun o G4 => o = .inl none ∧ FP (fun j => j = 17 ∨ j = 18) G3 G4 ∧ HM G4 (lst (rw9 (S.1 0) 4) 9 ++ lst (rw9 (S.1 0) 5) 9 ++ lst (sft (gD c9) 1) 32 ++ lst (pub (S.1 0)) 32)) m1 (r42.sg (by decide)) (by simp [lst_len]) (fun G4 q0 q1 => ⟨rfl, q0, q1⟩)) (fun o G4 h => ?_) (fun E G' h => by cases h.1)
  obtain ⟨h0, F4, m1⟩ := h
  cases h0
  have FA := FA.trans F4 (fun x hx => by omega)
  have FT := FT.trans F4 (fun x hx => by omega)
  have g0 := F4.get (by omega) g0
  have x1 := F4.get (by omega) x1
  have i38 := F4.get (by omega) i38
  have k2 := k2.fp (F4.2 _ (by omega))
  have k3 := k3.fp (F4.2 _ (by omega))
  have r41 := r41.fp (F4.2 _ (by omega))
  have r42 := r42.fp (F4.2 _ (by omega))
  have hi := hi.fp (F4.2 _ (by omega)) (F4.2 _ (by omega))
  have htr := htr.fp (F4.2 _ (by omega))
  have c26 := F4.get (by omega) c26
  have c28 := F4.get (by omega) c28
  have c29 := F4.get (by omega) c29
  have co1 := F4.get (by omega) co1
  have co2 := F4.get (by omega) co2
  have ir := F4.get (by omega) ir
  have r127 := r127.fp (F4.2 _ (by omega))
  have hcr := hcr.fp (fun j a c => F4.2 j (by omega))
  have g14 := m1.1
  refine V_aload_n rfl (by first | rfl | assumption) ?_
  refine V_getf rfl rfl rfl (by repeat (first | exact hup_eq | assumption | refine Eq.trans (hup_ne (by first | assumption | exact Ne.symm (by assumption) | decide | omega)) ?_)) (by first | rfl | assumption) ?_
  refine V_aload_n rfl (by first | rfl | assumption) ?_
  refine V_getf rfl rfl rfl (by repeat (first | exact hup_eq | assumption | refine Eq.trans (hup_ne (by first | assumption | exact Ne.symm (by assumption) | decide | omega)) ?_)) (by first | rfl | assumption) ?_
  refine V_getf rfl rfl rfl (by repeat (first | exact hup_eq | assumption | refine Eq.trans (hup_ne (by first | assumption | exact Ne.symm (by assumption) | decide | omega)) ?_)) (by first | rfl | assumption) ?_
  refine V_bipush (v := nI 33) rfl (by decide) ?_
  refine V_bipush (v := nI 32) rfl (by decide) ?_
  refine V_callV (M' := mX3_addRow) (mc := 0) (ms := 0) (bc' := 0) (bs' := 0) rfl cw_X11_121 iv_X3_addRow (by repeat (first | exact hup_eq | assumption | refine Eq.trans (hup_ne (by first | assumption | exact Ne.symm (by assumption) | decide | omega)) ?_)) rfl rfl (Nat.le_of_ble_eq_true rfl) ⟨Nat.le_of_ble_eq_true rfl, Nat.le_of_ble_eq_true rfl⟩ ⟨Nat.le_of_ble_eq_true rfl, Nat.le_of_ble_eq_true rfl⟩ (As := [.ref 133, .int (nI 33), .int (nI 32)]) (c_addSg (Q := fun o G5 => o = .inl none ∧ FP (fun j => j = 17 ∨ j = 18) G4 G5 ∧ HM G5 (lst (rw9 (S.1 0) 4) 9 ++ lst (rw9 (S.1 0) 5) 9 ++ lst (sft (gD c9) 1) 32 ++ lst (pub (S.1 0)) 32 ++ lst (sft (gD c9) 33) 32)) m1 (hi.sg (s := 33) (n := 32) (by decide) (by omega)) (by simp [lst_len]) (fun G5 q0 q1 => ⟨rfl, q0, q1⟩)) (fun o G5 h => ?_) (fun E G' h => by cases h.1)
  obtain ⟨h0, F5, m1⟩ := h
  cases h0
  have FA := FA.trans F5 (fun x hx => by omega)
  have FT := FT.trans F5 (fun x hx => by omega)
  have g0 := F5.get (by omega) g0
  have x1 := F5.get (by omega) x1
  have i38 := F5.get (by omega) i38
  have k2 := k2.fp (F5.2 _ (by omega))
  have k3 := k3.fp (F5.2 _ (by omega))
  have r41 := r41.fp (F5.2 _ (by omega))
  have r42 := r42.fp (F5.2 _ (by omega))
  have hi := hi.fp (F5.2 _ (by omega)) (F5.2 _ (by omega))
  have htr := htr.fp (F5.2 _ (by omega))
  have c26 := F5.get (by omega) c26
  have c28 := F5.get (by omega) c28
  have c29 := F5.get (by omega) c29
  have co1 := F5.get (by omega) co1
  have co2 := F5.get (by omega) co2
  have ir := F5.get (by omega) ir
  have r127 := r127.fp (F5.2 _ (by omega))
  have hcr := hcr.fp (fun j a c => F5.2 j (by omega))
  refine V_aload_n rfl (by first | rfl | assumption) ?_
  obtain ⟨H, hH⟩ : ∃ H, H = agr T (rw9 (S.1 0) 4) (rw9 (S.1 0) 5) (sft (gD c9) 1) (pub (S.1 0)) (sft (gD c9) 33) sh := ⟨_, rfl⟩
  refine V_callV (M' := mX11_finishAgreement) (mc := 0) (ms := 0) (bc' := 0) (bs' := 0) rfl cw_X11_331 iv_X11_finishAgreement (by repeat (first | exact hup_eq | assumption | refine Eq.trans (hup_ne (by first | assumption | exact Ne.symm (by assumption) | decide | omega)) ?_)) rfl rfl (Nat.le_of_ble_eq_true rfl) ⟨Nat.le_of_ble_eq_true rfl, Nat.le_of_ble_eq_true rfl⟩ ⟨Nat.le_of_ble_eq_true rfl, Nat.le_of_ble_eq_true rfl⟩ (As := []) (c_finishAgreement (T := T) (Q := fun o G6 => o = .inl none ∧ FP (fun j => (15 ≤ j ∧ j ≤ 18) ∨ j = 128) G5 G6 ∧ hsr G6 ∧ Rb G6 128 32 H) hT g0 m1 (by simp [lst_len]) r127 c28 (fun G6 q0 q1 q2 => ⟨rfl, q0, q1, by rw [hH]; exact q2⟩)) (fun o G6 h => ?_) (fun E G' h => by cases h.1)
  obtain ⟨h0, F6, hhs, r128⟩ := h
  cases h0
  have FA := FA.trans F6 (fun x hx => by omega)
  have FT := FT.trans F6 (fun x hx => by omega)
  have g0 := F6.get (by omega) g0
  have x1 := F6.get (by omega) x1
  have i38 := F6.get (by omega) i38
  have k2 := k2.fp (F6.2 _ (by omega))
  have k3 := k3.fp (F6.2 _ (by omega))
  have r41 := r41.fp (F6.2 _ (by omega))
  have r42 := r42.fp (F6.2 _ (by omega))
  have hi := hi.fp (F6.2 _ (by omega)) (F6.2 _ (by omega))
  have htr := htr.fp (F6.2 _ (by omega))
  have c26 := F6.get (by omega) c26
  have c29 := F6.get (by omega) c29
  have co1 := F6.get (by omega) co1
  have co2 := F6.get (by omega) co2
  have ir := F6.get (by omega) ir
  have r127 := r127.fp (F6.2 _ (by omega))
  have hcr := hcr.fp (fun j a c => F6.2 j (by omega))
  have g1 := hcr.1
  refine V_aload_n rfl (by first | rfl | assumption) ?_
  refine V_getf rfl rfl rfl (by repeat (first | exact hup_eq | assumption | refine Eq.trans (hup_ne (by first | assumption | exact Ne.symm (by assumption) | decide | omega)) ?_)) (by first | rfl | assumption) ?_
  refine V_aload_n rfl (by first | rfl | assumption) ?_
  refine V_getf rfl rfl rfl (by repeat (first | exact hup_eq | assumption | refine Eq.trans (hup_ne (by first | assumption | exact Ne.symm (by assumption) | decide | omega)) ?_)) (by first | rfl | assumption) ?_
  refine V_aload_n rfl (by first | rfl | assumption) ?_
  refine V_getf rfl rfl rfl (by repeat (first | exact hup_eq | assumption | refine Eq.trans (hup_ne (by first | assumption | exact Ne.symm (by assumption) | decide | omega)) ?_)) (by first | rfl | assumption) ?_
  refine V_getf rfl rfl rfl (by repeat (first | exact hup_eq | assumption | refine Eq.trans (hup_ne (by first | assumption | exact Ne.symm (by assumption) | decide | omega)) ?_)) (by first | rfl | assumption) ?_
  refine V_iconst (v := nI 1) rfl (by decide) ?_
  refine V_aload_n rfl (by first | rfl | assumption) ?_
  refine V_getf rfl rfl rfl (by repeat (first | exact hup_eq | assumption | refine Eq.trans (hup_ne (by first | assumption | exact Ne.symm (by assumption) | decide | omega)) ?_)) (by first | rfl | assumption) ?_
  refine V_callV (M' := mX0_times) (mc := 0) (ms := 0) (bc' := 0) (bs' := 0) rfl cw_X11_114 iv_X0_times (by repeat (first | exact hup_eq | assumption | refine Eq.trans (hup_ne (by first | assumption | exact Ne.symm (by assumption) | decide | omega)) ?_)) rfl rfl (Nat.le_of_ble_eq_true rfl) ⟨Nat.le_of_ble_eq_true rfl, Nat.le_of_ble_eq_true rfl⟩ ⟨Nat.le_of_ble_eq_true rfl, Nat.le_of_ble_eq_true rfl⟩ (As := [.ref (32 + 41), .ref 133, .int (nI 1), .ref 129]) (c_timesSg (Q := fun o G7 => o = .inl none ∧ FP (fun j => (2 ≤ j ∧ j ≤ 13) ∨ j = 129) G6 G7 ∧ crv G7 ∧ Rb G7 129 32 (mulB (rw9 (S.1 0) 3) (sft (gD c9) 1))) hcr (r41.sg (by decide)) (hi.sg (s := 1) (n := 32) (by decide) (by omega)) c29 (by decide) (fun G7 q0 q1 q2 => ⟨rfl, q0, q1, q2⟩)) (fun o G7 h => ?_) (fun E G' h => by cases h.1)
  obtain ⟨h0, F7, hcr, r129⟩ := h
  cases h0
  have FA := FA.trans F7 (fun x hx => by omega)
  have FT := FT.trans F7 (fun x hx => by omega)
  have g0 := F7.get (by omega) g0
  have x1 := F7.get (by omega) x1
  have i38 := F7.get (by omega) i38
  have k2 := k2.fp (F7.2 _ (by omega))
  have k3 := k3.fp (F7.2 _ (by omega))
  have r41 := r41.fp (F7.2 _ (by omega))
  have r42 := r42.fp (F7.2 _ (by omega))
  have hi := hi.fp (F7.2 _ (by omega)) (F7.2 _ (by omega))
  have htr := htr.fp (F7.2 _ (by omega))
  have c26 := F7.get (by omega) c26
  have co1 := F7.get (by omega) co1
  have co2 := F7.get (by omega) co2
  have ir := F7.get (by omega) ir
  have r127 := r127.fp (F7.2 _ (by omega))
  have r128 := r128.fp (F7.2 _ (by omega))
  have hhs := hhs.fp (fun j a c => F7.2 j (by omega))
  refine V_aload_n rfl (by first | rfl | assumption) ?_
  refine V_callV (M' := mX11_makeProof) (mc := 0) (ms := 0) (bc' := 0) (bs' := 0) rfl cw_X11_334 iv_X11_makeProof (by repeat (first | exact hup_eq | assumption | refine Eq.trans (hup_ne (by first | assumption | exact Ne.symm (by assumption) | decide | omega)) ?_)) rfl rfl (Nat.le_of_ble_eq_true rfl) ⟨Nat.le_of_ble_eq_true rfl, Nat.le_of_ble_eq_true rfl⟩ ⟨Nat.le_of_ble_eq_true rfl, Nat.le_of_ble_eq_true rfl⟩ (As := []) (c_makeProof (T := T) (Q := fun o G8 => o = .inl none ∧ FP (fun j => (15 ≤ j ∧ j ≤ 18) ∨ j = 129) G7 G8 ∧ hsr G8 ∧ Rb G8 129 32 (prf T (mulB (rw9 (S.1 0) 3) (sft (gD c9) 1)) H)) hT g0 hhs r129 r128 (fun G8 q0 q1 q2 => ⟨rfl, q0, q1, q2⟩)) (fun o G8 h => ?_) (fun E G' h => by cases h.1)
  obtain ⟨h0, F8, hhs, r129⟩ := h
  cases h0
  have FA := FA.trans F8 (fun x hx => by omega)
  have FT := FT.trans F8 (fun x hx => by omega)
  have g0 := F8.get (by omega) g0
  have x1 := F8.get (by omega) x1
  have i38 := F8.get (by omega) i38
  have k2 := k2.fp (F8.2 _ (by omega))
  have k3 := k3.fp (F8.2 _ (by omega))
  have r41 := r41.fp (F8.2 _ (by omega))
  have r42 := r42.fp (F8.2 _ (by omega))
  have hi := hi.fp (F8.2 _ (by omega)) (F8.2 _ (by omega))
  have htr := htr.fp (F8.2 _ (by omega))
  have c26 := F8.get (by omega) c26
  have co1 := F8.get (by omega) co1
  have co2 := F8.get (by omega) co2
  have ir := F8.get (by omega) ir
  have r127 := r127.fp (F8.2 _ (by omega))
  have r128 := r128.fp (F8.2 _ (by omega))
  have hcr := hcr.fp (fun j a c => F8.2 j (by omega))
  obtain ⟨pr, hpr⟩ : ∃ pr, pr = prf T (mulB (rw9 (S.1 0) 3) (sft (gD c9) 1)) H := ⟨_, rfl⟩
  rw [← hpr] at r129
  have RT := R1.tl FT hcr hhs (fun q a b => by
    have : q = 126 ∨ q = 127 ∨ q = 128 ∨ q = 129 := by omega
    rcases this with rfl | rfl | rfl | rfl
    · exact ⟨_, c26⟩
    · exact r127.c
    · exact r128.c
    · exact r129.c) ⟨_, _, co1, co2⟩
  have U : aRp T S c9 = if lst (sft (gD c9) 1) 32 = lst (S.2.1 1) 32 ∧ lst (sft (gD c9) 65) 32 = lst pr 32 then sE (emt T (sE S 0 s1) 0 [21]) 0 (tnk T ((emt T (sE S 0 s1) 0 [21]).1 0) sh H 65 67) else gvu T (sE S 0 s1) 0 := by
    unfold aRp
    rw [← hs1]
    simp only [sE_get, h1r, hpb]
    rw [← hsh, ← hH, ← hpr]
    rfl
  have no : ¬ (lst (sft (gD c9) 1) 32 = lst (S.2.1 1) 32 ∧ lst (sft (gD c9) 65) 32 = lst pr 32) → Q (.inl (some (.int 0))) G8 := fun hn => by
    rw [if_neg hn] at U
    exact hq G8 false FA (fun q => Bool.noConfusion q) (fun _ => by rw [← hs1]; exact ⟨RT, U⟩)
  have ir := hi.1
  refine V_aload_n rfl (by first | rfl | assumption) ?_
  refine V_getf rfl rfl rfl (by repeat (first | exact hup_eq | assumption | refine Eq.trans (hup_ne (by first | assumption | exact Ne.symm (by assumption) | decide | omega)) ?_)) (by first | rfl | assumption) ?_
  refine V_iconst (v := nI 1) rfl (by decide) ?_
  refine V_aload_n rfl (by first | rfl | assumption) ?_
  refine V_getf rfl rfl rfl (by repeat (first | exact hup_eq | assumption | refine Eq.trans (hup_ne (by first | assumption | exact Ne.symm (by assumption) | decide | omega)) ?_)) (by first | rfl | assumption) ?_
  refine V_callV (M' := mX6_differsAt) (mc := 0) (ms := 0) (bc' := 0) (bs' := 0) rfl cw_X11_341 iv_X6_differsAt (by repeat (first | exact hup_eq | assumption | refine Eq.trans (hup_ne (by first | assumption | exact Ne.symm (by assumption) | decide | omega)) ?_)) rfl rfl (Nat.le_of_ble_eq_true rfl) ⟨Nat.le_of_ble_eq_true rfl, Nat.le_of_ble_eq_true rfl⟩ ⟨Nat.le_of_ble_eq_true rfl, Nat.le_of_ble_eq_true rfl⟩ (As := [.int (nI 1), .ref 125]) (c_differsL (Q := fun o G' => o = .inl (some (.int (if lst (sft (gD c9) 1) 32 = lst (S.2.1 1) 32 then 0 else 1))) ∧ G' = G8) hi htr (by omega) (by decide) ⟨rfl, rfl⟩) (fun o G' h => ?_) (fun E G' h => by cases h.1)
  obtain ⟨h0, rfl⟩ := h
  cases h0
  by_cases d1 : lst (sft (gD c9) 1) 32 = lst (S.2.1 1) 32
  rotate_left
  · rw [if_neg d1]
    refine V_if_ne rfl (fun _ => ?_) (fun h => absurd h (by decide))
    refine V_iconst (v := 0) rfl (by decide) ?_
    exact V_zret rfl rfl (Or.inl rfl) (no (fun q => d1 q.1))
  rw [if_pos d1]
  refine V_if_ne rfl (fun h => absurd rfl h) (fun _ => ?_)
  refine V_aload_n rfl (by first | rfl | assumption) ?_
  refine V_getf rfl rfl rfl (by repeat (first | exact hup_eq | assumption | refine Eq.trans (hup_ne (by first | assumption | exact Ne.symm (by assumption) | decide | omega)) ?_)) (by first | rfl | assumption) ?_
  refine V_bipush (v := nI 65) rfl (by decide) ?_
  refine V_aload_n rfl (by first | rfl | assumption) ?_
  refine V_getf rfl rfl rfl (by repeat (first | exact hup_eq | assumption | refine Eq.trans (hup_ne (by first | assumption | exact Ne.symm (by assumption) | decide | omega)) ?_)) (by first | rfl | assumption) ?_
  refine V_callV (M' := mX6_differsAt) (mc := 0) (ms := 0) (bc' := 0) (bs' := 0) rfl cw_X11_341 iv_X6_differsAt (by repeat (first | exact hup_eq | assumption | refine Eq.trans (hup_ne (by first | assumption | exact Ne.symm (by assumption) | decide | omega)) ?_)) rfl rfl (Nat.le_of_ble_eq_true rfl) ⟨Nat.le_of_ble_eq_true rfl, Nat.le_of_ble_eq_true rfl⟩ ⟨Nat.le_of_ble_eq_true rfl, Nat.le_of_ble_eq_true rfl⟩ (As := [.int (nI 65), .ref 129]) (c_differsL (Q := fun o G2 => o = .inl (some (.int (if lst (sft (gD c9) 65) 32 = lst pr 32 then 0 else 1))) ∧ G2 = G') hi r129 (by omega) (by decide) ⟨rfl, rfl⟩) (fun o G2 h => ?_) (fun E G' h => by cases h.1)
  obtain ⟨h0, rfl⟩ := h
  cases h0
  by_cases d2 : lst (sft (gD c9) 65) 32 = lst pr 32
  rotate_left
  · rw [if_neg d2]
    refine V_if_eq rfl (fun h => absurd h (by decide)) (fun _ => ?_)
    refine V_iconst (v := 0) rfl (by decide) ?_
    exact V_zret rfl rfl (Or.inl rfl) (no (fun q => d2 q.2))
  rw [if_pos d2]
  refine V_if_eq rfl (fun _ => ?_) (fun h => absurd rfl h)
  rw [if_pos ⟨d1, d2⟩] at U
  clear no
  have hn1 : nm ((sE S 0 s1).1 0) 0 < 2 ^ 30 := by rw [sE_get, hs1]; exact hsent
  refine V_aload_n rfl (by first | rfl | assumption) ?_
  refine V_bipush (v := nI 21) rfl (by decide) ?_
  refine V_callV (M' := mX11_writeSingle) (mc := 0) (ms := 0) (bc' := 0) (bs' := 0) rfl cw_X11_262 iv_X11_writeSingle (by repeat (first | exact hup_eq | assumption | refine Eq.trans (hup_ne (by first | assumption | exact Ne.symm (by assumption) | decide | omega)) ?_)) rfl rfl (Nat.le_of_ble_eq_true rfl) ⟨Nat.le_of_ble_eq_true rfl, Nat.le_of_ble_eq_true rfl⟩ ⟨Nat.le_of_ble_eq_true rfl, Nat.le_of_ble_eq_true rfl⟩ (As := [.int (nI 21)]) (c_writeSingle (x := 21) (Q := fun o G20 => o = .inl none ∧ FP (fun j => j = 134 ∨ j = 135) G2 G20 ∧ Rw G20 134 135 200 [21]) g0 co1 co2 (by decide) (fun G20 q0 q1 => ⟨rfl, q0, q1⟩)) (fun o G20 h => ?_) (fun E G' h => by cases h.1)
  obtain ⟨h0, F20, r1⟩ := h
  cases h0
  have FA := FA.trans F20 (fun x hx => by omega)
  have g0 := F20.get (by omega) g0
  have r127 := r127.fp (F20.2 _ (by omega))
  have r128 := r128.fp (F20.2 _ (by omega))
  have RT := RT.out F20 r1
  refine V_aload_n rfl (by first | rfl | assumption) ?_
  refine V_aload_n rfl (by first | rfl | assumption) ?_
  refine V_getf rfl rfl rfl (by repeat (first | exact hup_eq | assumption | refine Eq.trans (hup_ne (by first | assumption | exact Ne.symm (by assumption) | decide | omega)) ?_)) (by first | rfl | assumption) ?_
  refine V_callV (M' := mX11_emit) (mc := 0) (ms := 0) (bc' := 0) (bs' := 0) rfl cw_X11_184 iv_X11_emit (by repeat (first | exact hup_eq | assumption | refine Eq.trans (hup_ne (by first | assumption | exact Ne.symm (by assumption) | decide | omega)) ?_)) rfl rfl (Nat.le_of_ble_eq_true rfl) ⟨Nat.le_of_ble_eq_true rfl, Nat.le_of_ble_eq_true rfl⟩ ⟨Nat.le_of_ble_eq_true rfl, Nat.le_of_ble_eq_true rfl⟩ (As := [.ref 32]) (c_emit (T := T) (S := sE S 0 s1) (e := 0) (p := [21]) (Q := fun o G21 => o = .inl none ∧ FP (fun j => 19 ≤ j ∧ j ≤ 123) G20 G21 ∧ RC (emt T (sE S 0 s1) 0 [21]) G21) (by decide) hT RT r1 (by omega) (fun G21 q0 q1 => ⟨rfl, q0, q1⟩)) (fun o G21 h => ?_) (fun E G' h => by cases h.1)
  obtain ⟨h0, F21, RT⟩ := h
  cases h0
  have FA := FA.trans F21 (fun x hx => by omega)
  have g0 := F21.get (by omega) g0
  have r127 := r127.fp (F21.2 _ (by omega))
  have r128 := r128.fp (F21.2 _ (by omega))
  refine V_aload_n rfl (by first | rfl | assumption) ?_
  refine V_aload_n rfl (by first | rfl | assumption) ?_
  refine V_getf rfl rfl rfl (by repeat (first | exact hup_eq | assumption | refine Eq.trans (hup_ne (by first | assumption | exact Ne.symm (by assumption) | decide | omega)) ?_)) (by first | rfl | assumption) ?_
  refine V_bipush (v := nI 65) rfl (by decide) ?_
  refine V_bipush (v := nI 67) rfl (by decide) ?_
  refine V_callV (M' := mX11_turnToNewKeys) (mc := 0) (ms := 0) (bc' := 0) (bs' := 0) rfl cw_X11_337 iv_X11_turnToNewKeys (by repeat (first | exact hup_eq | assumption | refine Eq.trans (hup_ne (by first | assumption | exact Ne.symm (by assumption) | decide | omega)) ?_)) rfl rfl (Nat.le_of_ble_eq_true rfl) ⟨Nat.le_of_ble_eq_true rfl, Nat.le_of_ble_eq_true rfl⟩ ⟨Nat.le_of_ble_eq_true rfl, Nat.le_of_ble_eq_true rfl⟩ (As := [.ref 32, .int (nI 65), .int (nI 67)]) (c_turnToNewKeys (T := T) (S := emt T (sE S 0 s1) 0 [21]) (e := 0) (Q := fun o G22 => o = .inl none ∧ FP (fun j => (15 ≤ j ∧ j ≤ 18) ∨ (32 ≤ j ∧ j ≤ 123)) G21 G22 ∧ RC (sE (emt T (sE S 0 s1) 0 [21]) 0 (tnk T ((emt T (sE S 0 s1) 0 [21]).1 0) sh H 65 67)) G22) (by decide) hT RT r127 r128 (by decide) (fun G22 q0 q1 => ⟨rfl, q0, q1⟩)) (fun o G22 h => ?_) (fun E G' h => by cases h.1)
  obtain ⟨h0, F22, RT⟩ := h
  cases h0
  have FA := FA.trans F22 (fun x hx => by omega)
  refine V_iconst (v := 1) rfl (by decide) ?_
  refine V_zret rfl rfl (Or.inr rfl) (hq _ true FA (fun _ => ?_) (fun q => Bool.noConfusion q))
  rw [U]
  exact RT

end CClass8
