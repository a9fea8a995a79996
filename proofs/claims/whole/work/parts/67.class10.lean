section CClass10
variable {K : kK} {G : kG} {Q : kO → kG → Prop}
theorem rdP_len {made : Bool} {c p : List Nat} (h : rdP made c = some p) : 1 ≤ p.length ∧ p.length ≤ 200 := by
  unfold rdP at h
  split at h
  · cases h
  split at h
  · cases h
  split at h
  · cases h
  split at h
  · cases h
  split at h
  · cases h
  split at h
  · cases h
    rw [List.length_take, List.length_drop]
    omega
  · cases h
theorem opn_len {T : TB} {made : Bool} {h b : Nat → Nat} {n : Nat} {l p : List Nat} (hp : opn T made h b n l = some p) : 1 ≤ p.length ∧ p.length ≤ 200 := by
  unfold opn at hp
  split at hp
  · split at hp
    · cases hp
    · split at hp
      · exact rdP_len hp
      · cases hp
  · exact rdP_len hp
theorem RC.inc {S : SG} {G' : kG} (h : RC S G) (F : FP (fun j => (19 ≤ j ∧ j ≤ 31) ∨ j = 132 ∨ j = 133) G G') (hs : slr G') (hi : ∃ m b, G'.1 132 = some (ROB 133 m) ∧ G'.1 133 = some (BA 200 b)) : RC S G' := by
  refine ⟨?_, fun k hk => (h.2 k hk).fp (fun j a c => F.2 j (by unfold EB at a c; omega))⟩
  obtain ⟨m, b, q1, q2⟩ := h.1.2.2.2.2.2.2.2.2.1
  exact h.1.up (h.1.1.fp (fun j a c => F.2 j (by omega))) (h.1.2.1.fp (fun j a c => F.2 j (by omega))) hs (fun c a d => by obtain ⟨b, hb⟩ := h.1.2.2.2.2.2.1 c a d; exact ⟨b, F.get (by omega) hb⟩) hi ⟨m, b, F.get (by omega) q1, F.get (by omega) q2⟩ (fun j hj => F.2 j (by omega))
/-- only one end's cells are others -/
theorem RC.one {S : SG} {e : Nat} {s' : ES} {G' : kG} (he : e < 2) (h : RC S G) (F : FP (fun j => EB e ≤ j ∧ j ≤ EB e + 45) G G') (hE : RE (EB e) s' G') : RC (sE S e s') G' := by
  have hEe : EB e = 32 + 46 * e := rfl
  refine ⟨?_, fun k hk => ?_⟩
  · obtain ⟨m, b, q1, q2⟩ := h.1.2.2.2.2.2.2.2.2.1
    exact h.1.sl (h.1.2.2.1.fp (fun j a c => F.2 j (by omega))) ⟨m, b, F.get (by omega) q1, F.get (by omega) q2⟩ (fun j hj => F.2 j (by omega))
  · by_cases ek : k = e
    · subst ek
      rw [sE_get]
      exact hE
    · rw [sE_ne ek]
      exact (h.2 k hk).fp (fun j a c => F.2 j (by unfold EB at a c ⊢; omega))
set_option maxHeartbeats 32000000 in
theorem c_deliver {e : Nat} {S : SG} {T : TB} (he : e < 2) (hT : tbl K T) (h : RC S G) (hsent : ∀ k, k < 2 → nm (S.1 k) 0 < 2 ^ 30 ∧ nm (S.1 k) 1 < 2 ^ 30) (hq : ∀ G', FP (fun j => 0 < j ∧ j < 136 ∧ j ≠ 124 ∧ j ≠ 125 ∧ j ≠ 130 ∧ j ≠ 131) G G' → RC (dlv T S e).2 G' → Q (.inl (some (.int (dlv T S e).1))) G') : C K 0 0 mX11_deliver [.ref 0, .ref (EB e)] G Q := by
  obtain ⟨tp, sp, g0⟩ := h.sw
  have hEe : EB e = 32 + 46 * e := rfl
  obtain ⟨x1, x2, x3, x4, x5, x6, x7, x8⟩ := id (h.2 e he)
  obtain ⟨fi, f, w1, w2, w3, w4, w5, w6, w7⟩ := id x6
  have FA : FP (fun j => 0 < j ∧ j < 136 ∧ j ≠ 124 ∧ j ≠ 125 ∧ j ≠ 130 ∧ j ≠ 131) G G := FP.rf
  obtain ⟨im, ib, ic1, ic2⟩ := h.1.2.2.2.2.2.2.2.1
  have hsl := h.1.2.2.1
  refine C_of okX11_deliver (Nat.le_of_ble_eq_true rfl) ?_
  refine V_aload_n rfl (by first | rfl | assumption) ?_
  refine V_getf rfl rfl rfl (by repeat (first | exact hup_eq | assumption | refine Eq.trans (hup_ne (by first | assumption | exact Ne.symm (by assumption) | decide | omega)) ?_)) (by first | rfl | assumption) ?_
  refine V_getf rfl rfl rfl (by repeat (first | exact hup_eq | assumption | refine Eq.trans (hup_ne (by first | assumption | exact Ne.symm (by assumption) | decide | omega)) ?_)) (by first | rfl | assumption) ?_
  refine V_if_neN rfl (by omega) (fun h0 => ?_) (fun h0 => ?_)
  rotate_left
  · refine V_iconst (v := -1) rfl (by decide) ?_
    have U : dlv T S e = (-1, S) := by unfold dlv; rw [if_pos h0]
    rw [U] at hq
    exact V_iret rfl rfl (hq G FA h)
  obtain ⟨s1, hs1⟩ : ∃ s1, s1 = swi (S.1 e) ((wi (S.1 e)).drop 1) := ⟨_, rfl⟩
  obtain ⟨c0, hc0⟩ : ∃ c0, c0 = (wi (S.1 e)).getD 0 [] := ⟨_, rfl⟩
  refine V_aload_n rfl (by first | rfl | assumption) ?_
  refine V_getf rfl rfl rfl (by repeat (first | exact hup_eq | assumption | refine Eq.trans (hup_ne (by first | assumption | exact Ne.symm (by assumption) | decide | omega)) ?_)) (by first | rfl | assumption) ?_
  obtain ⟨G1, hG1⟩ : ∃ G1, G1 = hup G (EB e + 6) (WIO (EB e) ((fi + 1) % 12) ((wi (S.1 e)).length - 1)) := ⟨_, rfl⟩
  refine V_callV (M' := mX10_removeFirst) (mc := 0) (ms := 0) (bc' := 0) (bs' := 0) rfl cw_X11_265 iv_X10_removeFirst (by repeat (first | exact hup_eq | assumption | refine Eq.trans (hup_ne (by first | assumption | exact Ne.symm (by assumption) | decide | omega)) ?_)) rfl rfl (Nat.le_of_ble_eq_true rfl) ⟨Nat.le_of_ble_eq_true rfl, Nat.le_of_ble_eq_true rfl⟩ ⟨Nat.le_of_ble_eq_true rfl, Nat.le_of_ble_eq_true rfl⟩ (As := []) (c_removeFirst (E := EB e) (Q := fun o G2 => o = .inl (some (.ref (EB e + 8 + 2 * fi))) ∧ G2 = G1) w3 w4 w5 w1 (by omega) ⟨rfl, hG1.symm⟩) (fun o G2 h => ?_) (fun E G' h => by cases h.1)
  obtain ⟨h00, rfl⟩ := h
  cases h00
  have F1 : FP (fun j => j = EB e + 6) G G2 := by rw [hG1]; exact FP.rf.hup rfl
  have i6 : G2.1 (EB e + 6) = some (WIO (EB e) ((fi + 1) % 12) ((wi (S.1 e)).length - 1)) := by rw [hG1]; exact hup_eq
  clear hG1
  have rw0 : Rw G2 (EB e + 8 + 2 * fi) (EB e + 9 + 2 * fi) 228 c0 := by
    have := w7 0 (by omega)
    rw [show (fi + 0) % 12 = fi by omega, ← hc0] at this
    exact this.fp (F1.2 _ (by omega)) (F1.2 _ (by omega))
  have W1 : WR (EB e) G2 ((wi (S.1 e)).drop 1) := by
    refine WR.tail (fi := fi) (f := f) (by omega) w1 i6 (F1.get (by omega) w4) w5 (fun j hj => ?_) (fun i hi => ?_)
    · obtain ⟨m, b, k1, k2⟩ := w6 j hj
      exact ⟨m, b, F1.get (by omega) k1, F1.get (by omega) k2⟩
    · exact (w7 i hi).fp (F1.2 _ (by omega)) (F1.2 _ (by omega))
  have R1 : RC (sE S e s1) G2 := by
    refine h.one he (F1.sub (fun x hx => by omega)) ?_
    rw [hs1]
    exact ⟨F1.get (by omega) x1, x2.fp (F1.2 _ (by omega)), x3.fp (F1.2 _ (by omega)), x4.fp (F1.2 _ (by omega)), x5.fp (F1.2 _ (by omega)) (F1.2 _ (by omega)), W1, (x7.fp (fun j a c => F1.2 j (by omega))).sta (fun _ _ _ => rfl) (fun _ _ _ => rfl), (x8.fp (fun j a c => F1.2 j (by omega))).sta (fun _ _ => rfl) rfl⟩
  have FA := FA.trans F1 (fun x hx => by omega)
  have g0 := F1.get (by omega) g0
  have x1' := F1.get (by omega) x1
  refine V_astore_n rfl (by decide) ?_
  refine V_aload_n rfl (by first | rfl | assumption) ?_
  refine V_getf rfl rfl rfl (by repeat (first | exact hup_eq | assumption | refine Eq.trans (hup_ne (by first | assumption | exact Ne.symm (by assumption) | decide | omega)) ?_)) (by first | rfl | assumption) ?_
  refine V_if_neB rfl (fun hl => ?_) (fun hl => ?_)
  rotate_left
  · refine V_bipush (v := -4) rfl (by decide) ?_
    have U : dlv T S e = (-4, sE S e s1) := by unfold dlv; rw [if_neg h0, if_pos hl, hs1]
    rw [U] at hq
    exact V_iret rfl rfl (hq G2 FA R1)
  obtain ⟨s2, hs2⟩ : ∃ s2, s2 = snm s1 1 (nm (S.1 e) 1 + 1) := ⟨_, rfl⟩
  obtain ⟨q, hqv⟩ : ∃ q, q = nm (S.1 e) 1 := ⟨_, rfl⟩
  have hqb : q < 2 ^ 30 := by rw [hqv]; exact (hsent e he).2
  refine V_aload_n rfl (by first | rfl | assumption) ?_
  refine V_getf rfl rfl rfl (by repeat (first | exact hup_eq | assumption | refine Eq.trans (hup_ne (by first | assumption | exact Ne.symm (by assumption) | decide | omega)) ?_)) (by first | rfl | assumption) ?_
  refine V_istore_n rfl (by decide) ?_
  refine V_aload_n rfl (by first | rfl | assumption) ?_
  refine V_dup rfl rfl ?_
  refine V_getf rfl rfl rfl (by repeat (first | exact hup_eq | assumption | refine Eq.trans (hup_ne (by first | assumption | exact Ne.symm (by assumption) | decide | omega)) ?_)) (by first | rfl | assumption) ?_
  refine V_iconst (v := nI 1) rfl (by decide) ?_
  refine V_iaddN rfl ?_
  refine V_putf rfl rfl rfl rfl (by repeat (first | exact hup_eq | assumption | refine Eq.trans (hup_ne (by first | assumption | exact Ne.symm (by assumption) | decide | omega)) ?_)) (Nat.le_of_ble_eq_true rfl) (by first | exact ⟨rfl, rfl⟩ | (constructor <;> decide)) ?_
  show V K 0 0 _ _ _ _ (hup G2 (EB e) (ENO (EB e) (snm (S.1 e) 1 (nm (S.1 e) 1 + 1)))) Q
  have hEN : ENO (EB e) (snm (S.1 e) 1 (nm (S.1 e) 1 + 1)) = ENO (EB e) s2 := by rw [hs2, hs1]; rfl
  rw [hEN, ← hqv]
  obtain ⟨G3, hG3⟩ : ∃ G3, G3 = hup G2 (EB e) (ENO (EB e) s2) := ⟨_, rfl⟩
  rw [← hG3]
  have F3 : FP (fun j => j = EB e) G2 G3 := by rw [hG3]; exact FP.rf.hup rfl
  have i0 : G3.1 (EB e) = some (ENO (EB e) s2) := by rw [hG3]; exact hup_eq
  clear hG3
  have R2 : RC (sE S e s2) G3 := by
    have : RC (sE (sE S e s1) e s2) G3 := by
      refine R1.one (s' := s2) he (F3.sub (fun x hx => by omega)) ?_
      have r := R1.2 e he
      rw [sE_get] at r
      exact r.obj (fun j a c => F3.2 j (by omega)) i0 (fun k a => by rw [hs2]; rfl) (by rw [hs2]; rfl) (by rw [hs2]; rfl) (by rw [hs2]; rfl)
    rw [sE_sE] at this
    exact this
  have ic1 := F3.get (by omega) (F1.get (by omega) ic1)
  have ic2 := F3.get (by omega) (F1.get (by omega) ic2)
  have hsl := (hsl.fp (G' := G2) (fun j a c => F1.2 j (by omega))).fp (G' := G3) (fun j a c => F3.2 j (by omega))
  have FA := FA.trans F3 (fun x hx => by omega)
  have g0 := F3.get (by omega) g0
  have rw0 := rw0.fp (F3.2 _ (by omega)) (F3.2 _ (by omega))
  obtain ⟨-, y4, y5, y6⟩ := x7
  have y4 := F3.get (by omega) (F1.get (by omega) y4)
  have y5 := (y5.fp (F1.2 _ (by omega))).fp (F3.2 _ (by omega))
  have y6 := (y6.fp (F1.2 _ (by omega))).fp (F3.2 _ (by omega))
  have g19 := hsl.1
  obtain ⟨O, hO⟩ : ∃ O, O = opn T (fl (S.1 e) 7) (rw9 (S.1 e) 8) (rw9 (S.1 e) 9) q c0 := ⟨_, rfl⟩
  have hS2e : sE S e (snm (swi (S.1 e) ((wi (S.1 e)).drop 1)) 1 (nm (S.1 e) 1 + 1)) = sE S e s2 := by rw [hs2, hs1]
  have U : dlv T S e = dl2 T (sE S e s2) e q O := by
    unfold dlv
    rw [if_neg h0, if_neg (by rw [hl]; decide), hS2e, hO, hc0, hqv]
  refine V_aload_n rfl (by first | rfl | assumption) ?_
  refine V_getf rfl rfl rfl (by repeat (first | exact hup_eq | assumption | refine Eq.trans (hup_ne (by first | assumption | exact Ne.symm (by assumption) | decide | omega)) ?_)) (by first | rfl | assumption) ?_
  refine V_aload_n rfl (by first | rfl | assumption) ?_
  refine V_aload_n rfl (by first | rfl | assumption) ?_
  refine V_getf rfl rfl rfl (by repeat (first | exact hup_eq | assumption | refine Eq.trans (hup_ne (by first | assumption | exact Ne.symm (by assumption) | decide | omega)) ?_)) (by first | rfl | assumption) ?_
  refine V_iload_n rfl (by first | rfl | assumption) ?_
  refine V_aload_n rfl (by first | rfl | assumption) ?_
  refine V_getf rfl rfl rfl (by repeat (first | exact hup_eq | assumption | refine Eq.trans (hup_ne (by first | assumption | exact Ne.symm (by assumption) | decide | omega)) ?_)) (by first | rfl | assumption) ?_
  refine V_callV (M' := mX7_open) (mc := 0) (ms := 0) (bc' := 0) (bs' := 0) rfl cw_X11_271 iv_X7_open (by repeat (first | exact hup_eq | assumption | refine Eq.trans (hup_ne (by first | assumption | exact Ne.symm (by assumption) | decide | omega)) ?_)) rfl rfl (Nat.le_of_ble_eq_true rfl) ⟨Nat.le_of_ble_eq_true rfl, Nat.le_of_ble_eq_true rfl⟩ ⟨Nat.le_of_ble_eq_true rfl, Nat.le_of_ble_eq_true rfl⟩ (As := [.ref (EB e + 8 + 2 * fi), .ref (EB e + 35), .int (nI q), .ref 132]) (c_open (T := T) (Q := fun o G4 => o = .inl (some (.int (bI O.isSome))) ∧ FP (fun j => (19 ≤ j ∧ j ≤ 31) ∨ j = 132 ∨ j = 133) G3 G4 ∧ slr G4 ∧ (∀ p, O = some p → Rw G4 132 133 200 p) ∧ (O = none → G4.1 132 = G3.1 132 ∧ G4.1 133 = G3.1 133)) hT hsl rw0 y4 y5 y6 ic1 ic2 (by omega) (by omega) (fun G4 h1 h2 h3 h4 => ⟨by rw [hO], h1, h2, fun p hp => h3 p (by rw [← hO]; exact hp), fun hp => h4 (by rw [← hO]; exact hp)⟩)) (fun o G4 h => ?_) (fun E G' h => by cases h.1)
  obtain ⟨h00, F4, s4, p1, p2⟩ := h
  cases h00
  have FA := FA.trans F4 (fun x hx => by omega)
  have g0 := F4.get (by omega) g0
  have hns : nm ((sE S e s2).1 e) 0 < 2 ^ 30 := by rw [sE_get, hs2, hs1]; exact (hsent e he).1
  refine V_if_neB rfl (fun ho => ?_) (fun ho => ?_)
  rotate_left
  · have hn : O = none := by cases O with | none => rfl | some p => exact Bool.noConfusion ho
    have R4 : RC (sE S e s2) G4 := R2.inc F4 s4 ⟨_, _, (p2 hn).1.trans ic1, (p2 hn).2.trans ic2⟩
    rw [U, hn] at hq
    refine V_aload_n rfl (by first | rfl | assumption) ?_
    refine V_aload_n rfl (by first | rfl | assumption) ?_
    refine V_callV (M' := mX11_giveUp) (mc := 0) (ms := 0) (bc' := 0) (bs' := 0) rfl cw_X11_275 iv_X11_giveUp (by repeat (first | exact hup_eq | assumption | refine Eq.trans (hup_ne (by first | assumption | exact Ne.symm (by assumption) | decide | omega)) ?_)) rfl rfl (Nat.le_of_ble_eq_true rfl) ⟨Nat.le_of_ble_eq_true rfl, Nat.le_of_ble_eq_true rfl⟩ ⟨Nat.le_of_ble_eq_true rfl, Nat.le_of_ble_eq_true rfl⟩ (As := [.ref (EB e)]) (c_giveUp (T := T) (S := sE S e s2) (Q := fun o G5 => o = .inl none ∧ FP (fun j => (19 ≤ j ∧ j ≤ 123) ∨ j = 134 ∨ j = 135) G4 G5 ∧ RC (gvu T (sE S e s2) e) G5) he hT R4 (by omega) (fun G5 h1 h2 => ⟨rfl, h1, h2⟩)) (fun o G5 h => ?_) (fun E G' h => by cases h.1)
    obtain ⟨h00, F5, R5⟩ := h
    cases h00
    refine V_bipush (v := -2) rfl (by decide) ?_
    exact V_iret rfl rfl (hq G5 (FA.trans F5 (fun x hx => by omega)) R5)
  obtain ⟨p, hp⟩ : ∃ p, O = some p := by cases O with | none => exact Bool.noConfusion ho | some p => exact ⟨p, rfl⟩
  have r4 := p1 p hp
  have R4 : RC (sE S e s2) G4 := R2.inc F4 s4 r4.ex
  have hpl : 1 ≤ p.length ∧ p.length ≤ 200 := opn_len (hO.symm.trans hp)
  rw [U, hp] at hq
  replace hq : ∀ G', FP (fun j => 0 < j ∧ j < 136 ∧ j ≠ 124 ∧ j ≠ 125 ∧ j ≠ 130 ∧ j ≠ 131) G G' → RC (if inP (sE S e s2) e p then (nI (gD p 0), act T (sE S e s2) e p q) else (-3, gvu T (sE S e s2) e)).2 G' → Q (.inl (some (.int (if inP (sE S e s2) e p then (nI (gD p 0), act T (sE S e s2) e p q) else (-3, gvu T (sE S e s2) e)).1))) G' := hq
  clear U p1 p2 hp hO ho
  obtain ⟨S2, hS2⟩ : ∃ S2, S2 = sE S e s2 := ⟨_, rfl⟩
  rw [← hS2] at hq R4 hns
  have hns1 : nm (S2.1 1) 0 < 2 ^ 30 := by
    by_cases z : e = 1
    · rw [← z]; exact hns
    · rw [hS2, sE_ne (fun q => z q.symm)]; exact (hsent 1 (by decide)).1
  clear hS2 hS2e R1 R2 F1 F3 F4
  obtain ⟨z1, z2, pb, z3, z4, z5⟩ := id r4
  have hg0 : gD p 0 = pb 0 := gD_of z4 (by omega)
  have hb0 : gD p 0 < 256 := by rw [hg0]; exact z5 0 (by omega)
  refine V_aload_n rfl (by first | rfl | assumption) ?_
  refine V_getf rfl rfl rfl (by repeat (first | exact hup_eq | assumption | refine Eq.trans (hup_ne (by first | assumption | exact Ne.symm (by assumption) | decide | omega)) ?_)) (by first | rfl | assumption) ?_
  refine V_getf rfl rfl rfl (by repeat (first | exact hup_eq | assumption | refine Eq.trans (hup_ne (by first | assumption | exact Ne.symm (by assumption) | decide | omega)) ?_)) (by first | rfl | assumption) ?_
  refine V_iconst (v := nI 0) rfl (by decide) ?_
  refine V_ialdN rfl (by repeat (first | exact hup_eq | assumption | refine Eq.trans (hup_ne (by first | assumption | exact Ne.symm (by assumption) | decide | omega)) ?_)) rfl (by first | omega | decide) (by first | omega | decide) ?_
  refine V_istore rfl (by decide) ?_
  rw [← hg0]
  refine V_aload_n rfl (by first | rfl | assumption) ?_
  refine V_aload_n rfl (by first | rfl | assumption) ?_
  refine V_iload rfl (by first | rfl | assumption) ?_
  refine V_callV (M' := mX11_isInPlace) (mc := 0) (ms := 0) (bc' := 0) (bs' := 0) rfl cw_X11_278 iv_X11_isInPlace (by repeat (first | exact hup_eq | assumption | refine Eq.trans (hup_ne (by first | assumption | exact Ne.symm (by assumption) | decide | omega)) ?_)) rfl rfl (Nat.le_of_ble_eq_true rfl) ⟨Nat.le_of_ble_eq_true rfl, Nat.le_of_ble_eq_true rfl⟩ ⟨Nat.le_of_ble_eq_true rfl, Nat.le_of_ble_eq_true rfl⟩ (As := [.ref (EB e), .int (nI (gD p 0))]) (c_isInPlace (S := S2) (Q := fun o G5 => o = .inl (some (.int (bI (inP S2 e p)))) ∧ G5 = G4) he R4 r4 hpl.1 hb0 ⟨rfl, rfl⟩) (fun o G5 h => ?_) (fun E G' h => by cases h.1)
  obtain ⟨h00, rfl⟩ := h
  cases h00
  refine V_if_neB rfl (fun hin => ?_) (fun hin => ?_)
  rotate_left
  · rw [hin] at hq
    refine V_aload_n rfl (by first | rfl | assumption) ?_
    refine V_aload_n rfl (by first | rfl | assumption) ?_
    refine V_callV (M' := mX11_giveUp) (mc := 0) (ms := 0) (bc' := 0) (bs' := 0) rfl cw_X11_275 iv_X11_giveUp (by repeat (first | exact hup_eq | assumption | refine Eq.trans (hup_ne (by first | assumption | exact Ne.symm (by assumption) | decide | omega)) ?_)) rfl rfl (Nat.le_of_ble_eq_true rfl) ⟨Nat.le_of_ble_eq_true rfl, Nat.le_of_ble_eq_true rfl⟩ ⟨Nat.le_of_ble_eq_true rfl, Nat.le_of_ble_eq_true rfl⟩ (As := [.ref (EB e)]) (c_giveUp (T := T) (S := S2) (Q := fun o G6 => o = .inl none ∧ FP (fun j => (19 ≤ j ∧ j ≤ 123) ∨ j = 134 ∨ j = 135) G5 G6 ∧ RC (gvu T S2 e) G6) he hT R4 (by omega) (fun G5 h1 h2 => ⟨rfl, h1, h2⟩)) (fun o G6 h => ?_) (fun E G' h => by cases h.1)
    obtain ⟨h00, F6, R6⟩ := h
    cases h00
    refine V_bipush (v := -3) rfl (by decide) ?_
    exact V_iret rfl rfl (hq G6 (FA.trans F6 (fun x hx => by omega)) R6)
  rw [hin] at hq
  replace hq : ∀ G', FP (fun j => 0 < j ∧ j < 136 ∧ j ≠ 124 ∧ j ≠ 125 ∧ j ≠ 130 ∧ j ≠ 131) G G' → RC (act T S2 e p q) G' → Q (.inl (some (.int (nI (gD p 0))))) G' := hq
  obtain ⟨m, hm⟩ : ∃ m, m = gD p 0 := ⟨_, rfl⟩
  rw [← hm] at hq hb0 ⊢
  have fi9 : ∀ (lc : kLo) (G6 : kG) (P : Nat → Prop), lc 4 = some (.int (nI m)) → FP P G5 G6 → (∀ x, P x → 0 < x ∧ x < 136 ∧ x ≠ 124 ∧ x ≠ 125 ∧ x ≠ 130 ∧ x ≠ 131) → RC (act T S2 e p q) G6 → V K 0 0 mX11_deliver 291 lc [] G6 Q := by
    intro lc G6 P l4 F6 hP R6
    refine V_iload rfl (by first | rfl | assumption) ?_
    exact V_iret rfl rfl (hq G6 (FA.trans F6 hP) R6)
  clear hq
  have x1 := (R4.2 e he).1
  refine V_iload rfl (by first | rfl | assumption) ?_
  by_cases m1 : m = 1
  · have A : act T S2 e p q = sE S2 e (sfl (S2.1 e) 0 false) := by unfold act; rw [if_pos (by omega)]
    rw [A] at fi9
    have k := R4.dead he rfl
    have l4 : (some (Value.int (nI m))) = some (Value.int (nI m)) := rfl
    revert fi9
    rw [m1]
    intro fi9
    refine V_lookupN rfl (by decide) (by decide) (o := 76) rfl (g := 180) (by decide) ?_
    refine V_aload_n rfl (by first | rfl | assumption) ?_
    refine V_iconst (v := nI 0) rfl (by decide) ?_
    refine V_putf rfl rfl rfl rfl (by repeat (first | exact hup_eq | assumption | refine Eq.trans (hup_ne (by first | assumption | exact Ne.symm (by assumption) | decide | omega)) ?_)) (Nat.le_of_ble_eq_true rfl) (by first | exact ⟨rfl, rfl⟩ | (constructor <;> decide)) ?_
    refine V_goto rfl ?_
    exact fi9 _ _ (fun j => j = EB e) rfl (FP.rf.hup rfl) (fun x hx => by omega) k
  by_cases m2 : m = 2
  · have A : act T S2 e p q = S2 := by unfold act; rw [if_neg (by omega), if_pos (by omega)]
    rw [A] at fi9
    revert fi9
    rw [m2]
    intro fi9
    refine V_lookupN rfl (by decide) (by decide) (o := 84) rfl (g := 188) (by decide) ?_
    refine V_goto rfl ?_
    exact fi9 _ _ (fun _ => False) rfl FP.rf (fun x hx => hx.elim) R4
  by_cases m3 : m = 3
  · have A : act T S2 e p q = sE S2 e (sun (S2.1 e) (if p.length = 5 then nI (be4v (gD p) 1) else -1)) := by unfold act; rw [if_neg (by omega), if_neg (by omega), if_pos (by omega)]
    rw [A] at fi9
    revert fi9
    rw [m3]
    intro fi9
    refine V_lookupN rfl (by decide) (by decide) (o := 87) rfl (g := 191) (by decide) ?_
    have k : ∀ v, RC (sE S2 e (sun (S2.1 e) v)) (hup G5 (EB e) (ENO (EB e) (sun (S2.1 e) v))) := fun v => by
      refine R4.one he (FP.rf.hup (by omega)) ?_
      exact (R4.2 e he).obj (fun j a c => hup_ne (by omega)) hup_eq (fun k a => rfl) rfl rfl rfl
    refine V_aload_n rfl (by first | rfl | assumption) ?_
    refine V_aload_n rfl (by first | rfl | assumption) ?_
    refine V_getf rfl rfl rfl (by repeat (first | exact hup_eq | assumption | refine Eq.trans (hup_ne (by first | assumption | exact Ne.symm (by assumption) | decide | omega)) ?_)) (by first | rfl | assumption) ?_
    refine V_getf rfl rfl rfl (by repeat (first | exact hup_eq | assumption | refine Eq.trans (hup_ne (by first | assumption | exact Ne.symm (by assumption) | decide | omega)) ?_)) (by first | rfl | assumption) ?_
    refine V_iconst (v := nI 5) rfl (by decide) ?_
    refine V_icmp_neN rfl (by omega) (by decide) (fun h5 => ?_) (fun h5 => ?_)
    · rw [if_neg h5] at fi9
      refine V_iconst (v := (-1)) rfl (by decide) ?_
      refine V_putf rfl rfl rfl rfl (by repeat (first | exact hup_eq | assumption | refine Eq.trans (hup_ne (by first | assumption | exact Ne.symm (by assumption) | decide | omega)) ?_)) (Nat.le_of_ble_eq_true rfl) (by first | exact ⟨rfl, rfl⟩ | (constructor <;> decide)) ?_
      refine V_goto rfl ?_
      exact fi9 _ _ (fun j => j = EB e) rfl (FP.rf.hup rfl) (fun x hx => by omega) (k (-1))
    · rw [if_pos h5] at fi9
      refine V_aload_n rfl (by first | rfl | assumption) ?_
      refine V_getf rfl rfl rfl (by repeat (first | exact hup_eq | assumption | refine Eq.trans (hup_ne (by first | assumption | exact Ne.symm (by assumption) | decide | omega)) ?_)) (by first | rfl | assumption) ?_
      refine V_iconst (v := nI 1) rfl (by decide) ?_
      refine V_callV (M' := mX6_bigAt) (mc := 0) (ms := 0) (bc' := 0) (bs' := 0) rfl cw_X11_281 iv_X6_bigAt (by repeat (first | exact hup_eq | assumption | refine Eq.trans (hup_ne (by first | assumption | exact Ne.symm (by assumption) | decide | omega)) ?_)) rfl rfl (Nat.le_of_ble_eq_true rfl) ⟨Nat.le_of_ble_eq_true rfl, Nat.le_of_ble_eq_true rfl⟩ ⟨Nat.le_of_ble_eq_true rfl, Nat.le_of_ble_eq_true rfl⟩ (As := [.int (nI 1)]) (c_bigAt (f := pb) (Q := fun o G6 => o = .inl (some (.int (nI (be4v (gD p) 1)))) ∧ G6 = G5) z1 z3 (by omega) (by omega) (fun j hj => z5 _ (by omega)) ⟨by unfold be4v; rw [gD_of z4 (by omega), gD_of z4 (by omega), gD_of z4 (by omega), gD_of z4 (by omega)], rfl⟩) (fun o G6 h => ?_) (fun E G' h => by cases h.1)
      obtain ⟨h00, rfl⟩ := h
      cases h00
      refine V_goto rfl ?_
      refine V_putf rfl rfl rfl rfl (by repeat (first | exact hup_eq | assumption | refine Eq.trans (hup_ne (by first | assumption | exact Ne.symm (by assumption) | decide | omega)) ?_)) (Nat.le_of_ble_eq_true rfl) (by first | exact ⟨rfl, rfl⟩ | (constructor <;> decide)) ?_
      refine V_goto rfl ?_
      exact fi9 _ _ (fun j => j = EB e) rfl (FP.rf.hup rfl) (fun x hx => by omega) (k _)
  by_cases m20 : m = 20
  · have A : act T S2 e p q = onI T S2 e p := by unfold act; rw [if_neg (by omega), if_neg (by omega), if_neg (by omega), if_pos (by omega)]
    rw [A] at fi9
    have hlen : p.length = 9 := by
      unfold inP at hin
      rw [← hm, if_pos m20] at hin
      simp at hin
      exact hin.1
    revert fi9
    rw [m20]
    intro fi9
    refine V_lookupN rfl (by decide) (by decide) (o := 117) rfl (g := 221) (by decide) ?_
    refine V_aload_n rfl (by first | rfl | assumption) ?_
    refine V_aload_n rfl (by first | rfl | assumption) ?_
    refine V_callV (M' := mX11_onInit) (mc := 0) (ms := 0) (bc' := 0) (bs' := 0) rfl cw_X11_285 iv_X11_onInit (by repeat (first | exact hup_eq | assumption | refine Eq.trans (hup_ne (by first | assumption | exact Ne.symm (by assumption) | decide | omega)) ?_)) rfl rfl (Nat.le_of_ble_eq_true rfl) ⟨Nat.le_of_ble_eq_true rfl, Nat.le_of_ble_eq_true rfl⟩ ⟨Nat.le_of_ble_eq_true rfl, Nat.le_of_ble_eq_true rfl⟩ (As := [.ref (EB e)]) (c_onInit (T := T) (S := S2) (c9 := p) (Q := fun o G6 => o = .inl none ∧ FP (fun j => (2 ≤ j ∧ j ≤ 13) ∨ (19 ≤ j ∧ j ≤ 123) ∨ j = 134 ∨ j = 135) G5 G6 ∧ RC (onI T S2 e p) G6) he hT R4 r4 (by omega) hns (fun G6 h1 h2 => ⟨rfl, h1, h2⟩)) (fun o G6 h => ?_) (fun E G' h => by cases h.1)
    obtain ⟨h00, F6, R6⟩ := h
    cases h00
    refine V_goto rfl ?_
    exact fi9 _ _ _ rfl F6 (fun x hx => by omega) R6
  by_cases m21 : m = 21
  · have A : act T S2 e p q = sE S2 e (fin (S2.1 e)) := by unfold act; rw [if_neg (by omega), if_neg (by omega), if_neg (by omega), if_neg (by omega), if_pos (by omega)]
    rw [A] at fi9
    have hs5 : fl (S2.1 e) 5 = true := by
      unfold inP at hin
      rw [← hm, if_neg m20, if_pos m21] at hin
      simp at hin
      exact hin.2
    revert fi9
    rw [m21]
    intro fi9
    refine V_lookupN rfl (by decide) (by decide) (o := 125) rfl (g := 229) (by decide) ?_
    refine V_aload_n rfl (by first | rfl | assumption) ?_
    refine V_callV (M' := mX1_finishExchange) (mc := 0) (ms := 0) (bc' := 0) (bs' := 0) rfl cw_X11_288 iv_X1_finishExchange (by repeat (first | exact hup_eq | assumption | refine Eq.trans (hup_ne (by first | assumption | exact Ne.symm (by assumption) | decide | omega)) ?_)) rfl rfl (Nat.le_of_ble_eq_true rfl) ⟨Nat.le_of_ble_eq_true rfl, Nat.le_of_ble_eq_true rfl⟩ ⟨Nat.le_of_ble_eq_true rfl, Nat.le_of_ble_eq_true rfl⟩ (As := []) (c_finishExchange (S := S2) (Q := fun o G6 => o = .inl none ∧ FP (fun j => 32 ≤ j ∧ j ≤ 123) G5 G6 ∧ RC (sE S2 e (fin (S2.1 e))) G6) he R4 hs5 (fun G6 h1 h2 => ⟨rfl, h1, h2⟩)) (fun o G6 h => ?_) (fun E G' h => by cases h.1)
    obtain ⟨h00, F6, R6⟩ := h
    cases h00
    refine V_goto rfl ?_
    exact fi9 _ _ _ rfl F6 (fun x hx => by omega) R6
  by_cases m30 : m = 30
  · have A : act T S2 e p q = onR T S2 p := by unfold act; rw [if_neg (by omega), if_neg (by omega), if_neg (by omega), if_neg (by omega), if_neg (by omega), if_pos (by omega)]
    rw [A] at fi9
    have hin2 : p.length = 33 := by
      unfold inP at hin
      rw [← hm, if_neg m20, if_neg m21, if_pos m30] at hin
      simp at hin
      exact hin.1.1.1.1
    revert fi9
    rw [m30]
    intro fi9
    refine V_lookupN rfl (by decide) (by decide) (o := 132) rfl (g := 236) (by decide) ?_
    refine V_aload_n rfl (by first | rfl | assumption) ?_
    refine V_callV (M' := mX11_onRequest) (mc := 0) (ms := 0) (bc' := 0) (bs' := 0) rfl cw_X11_291 iv_X11_onRequest (by repeat (first | exact hup_eq | assumption | refine Eq.trans (hup_ne (by first | assumption | exact Ne.symm (by assumption) | decide | omega)) ?_)) rfl rfl (Nat.le_of_ble_eq_true rfl) ⟨Nat.le_of_ble_eq_true rfl, Nat.le_of_ble_eq_true rfl⟩ ⟨Nat.le_of_ble_eq_true rfl, Nat.le_of_ble_eq_true rfl⟩ (As := []) (c_onRequest (T := T) (S := S2) (c9 := p) (Q := fun o G6 => o = .inl none ∧ FP (fun j => (2 ≤ j ∧ j ≤ 13) ∨ (15 ≤ j ∧ j ≤ 123) ∨ (126 ≤ j ∧ j ≤ 129) ∨ j = 134 ∨ j = 135) G5 G6 ∧ RC (onR T S2 p) G6) hT R4 r4 (by omega) hns1 (fun G6 h1 h2 => ⟨rfl, h1, h2⟩)) (fun o G6 h => ?_) (fun E G' h => by cases h.1)
    obtain ⟨h00, F6, R6⟩ := h
    cases h00
    refine V_goto rfl ?_
    exact fi9 _ _ _ rfl F6 (fun x hx => by omega) R6
  by_cases m31 : m = 31
  · have A : act T S2 e p q = aRp T S2 p := by unfold act; rw [if_neg (by omega), if_neg (by omega), if_neg (by omega), if_neg (by omega), if_neg (by omega), if_neg (by omega), if_pos (by omega)]
    rw [A] at fi9
    have hin2 : p.length = 97 ∧ e = 0 ∧ fl (S2.1 e) 4 = true := by
      unfold inP at hin
      rw [← hm, if_neg m20, if_neg m21, if_neg m30, if_pos m31] at hin
      simp at hin
      exact ⟨hin.1.1.1, hin.1.1.2, hin.1.2⟩
    obtain ⟨hl97, e0, hf4⟩ := hin2
    subst e0
    revert fi9
    rw [m31]
    intro fi9
    refine V_lookupN rfl (by decide) (by decide) (o := 139) rfl (g := 243) (by decide) ?_
    refine V_aload_n rfl (by first | rfl | assumption) ?_
    refine V_callV (M' := mX11_acceptReply) (mc := 0) (ms := 0) (bc' := 0) (bs' := 0) rfl cw_X11_294 iv_X11_acceptReply (by repeat (first | exact hup_eq | assumption | refine Eq.trans (hup_ne (by first | assumption | exact Ne.symm (by assumption) | decide | omega)) ?_)) rfl rfl (Nat.le_of_ble_eq_true rfl) ⟨Nat.le_of_ble_eq_true rfl, Nat.le_of_ble_eq_true rfl⟩ ⟨Nat.le_of_ble_eq_true rfl, Nat.le_of_ble_eq_true rfl⟩ (As := []) (c_acceptReply (T := T) (S := S2) (c9 := p) (Q := fun o G6 => ∃ ok, o = .inl (some (.int (bI ok))) ∧ FP (fun j => (2 ≤ j ∧ j ≤ 13) ∨ (15 ≤ j ∧ j ≤ 123) ∨ (126 ≤ j ∧ j ≤ 129) ∨ j = 134 ∨ j = 135) G5 G6 ∧ (ok = true → RC (aRp T S2 p) G6) ∧ (ok = false → RC (sE S2 0 (sfl (S2.1 0) 8 true)) G6 ∧ aRp T S2 p = gvu T (sE S2 0 (sfl (S2.1 0) 8 true)) 0)) hT R4 hf4 r4 (by omega) hns (fun G6 ok h1 h2 h3 => ⟨ok, rfl, h1, h2, h3⟩)) (fun o G6 h => ?_) (fun E G' h => by obtain ⟨_, h, _⟩ := h; cases h)
    obtain ⟨ok, h00, F6, hok, hno⟩ := h
    cases h00
    refine V_if_neB rfl (fun b => ?_) (fun b => ?_)
    · exact fi9 _ _ _ rfl F6 (fun x hx => by omega) (hok b)
    · obtain ⟨R6, hg⟩ := hno b
      rw [hg] at fi9
      obtain ⟨tp6, sp6, g06⟩ := R6.sw
      refine V_aload_n rfl (by first | rfl | assumption) ?_
      refine V_aload_n rfl (by first | rfl | assumption) ?_
      refine V_callV (M' := mX11_giveUp) (mc := 0) (ms := 0) (bc' := 0) (bs' := 0) rfl cw_X11_275 iv_X11_giveUp (by repeat (first | exact hup_eq | assumption | refine Eq.trans (hup_ne (by first | assumption | exact Ne.symm (by assumption) | decide | omega)) ?_)) rfl rfl (Nat.le_of_ble_eq_true rfl) ⟨Nat.le_of_ble_eq_true rfl, Nat.le_of_ble_eq_true rfl⟩ ⟨Nat.le_of_ble_eq_true rfl, Nat.le_of_ble_eq_true rfl⟩ (As := [.ref (EB 0)]) (c_giveUp (T := T) (S := sE S2 0 (sfl (S2.1 0) 8 true)) (Q := fun o G7 => o = .inl none ∧ FP (fun j => (19 ≤ j ∧ j ≤ 123) ∨ j = 134 ∨ j = 135) G6 G7 ∧ RC (gvu T (sE S2 0 (sfl (S2.1 0) 8 true)) 0) G7) he hT R6 (by rw [sE_get]; show nm (S2.1 0) 0 < _; omega) (fun G5 h1 h2 => ⟨rfl, h1, h2⟩)) (fun o G7 h => ?_) (fun E G' h => by cases h.1)
      obtain ⟨h00, F7, R7⟩ := h
      cases h00
      refine V_goto rfl ?_
      exact fi9 _ _ (fun j => (2 ≤ j ∧ j ≤ 13) ∨ (15 ≤ j ∧ j ≤ 123) ∨ (126 ≤ j ∧ j ≤ 129) ∨ j = 134 ∨ j = 135) rfl (F6.trans F7 (fun x hx => by omega)) (fun x hx => by omega) R7
  by_cases m94 : m = 94
  · have A : act T S2 e p q = sE S2 e (sgt (S2.1 e) (gt (S2.1 e) ++ p.drop 1)) := by unfold act; rw [if_neg (by omega), if_neg (by omega), if_neg (by omega), if_neg (by omega), if_neg (by omega), if_neg (by omega), if_neg (by omega), if_pos (by omega)]
    rw [A] at fi9
    have hroom : (gt (S2.1 e)).length + p.length - 1 ≤ 2000 := by
      unfold inP at hin
      rw [← hm, if_neg m20, if_neg m21, if_neg m30, if_neg m31, if_pos m94] at hin
      simp at hin
      omega
    obtain ⟨v1, v2, v3, v4, v5, v6, v7, v8⟩ := id (R4.2 e he)
    have v51 := v5.1
    have hdr : p.drop 1 = lst (sft (gD p) 1) (p.length - 1) := by
      conv => lhs; rw [← lst_gD p]
      rw [lst_drop (by omega)]
      rfl
    revert fi9
    rw [m94]
    intro fi9
    refine V_lookupN rfl (by decide) (by decide) (o := 154) rfl (g := 258) (by decide) ?_
    refine V_aload_n rfl (by first | rfl | assumption) ?_
    refine V_getf rfl rfl rfl (by repeat (first | exact hup_eq | assumption | refine Eq.trans (hup_ne (by first | assumption | exact Ne.symm (by assumption) | decide | omega)) ?_)) (by first | rfl | assumption) ?_
    refine V_aload_n rfl (by first | rfl | assumption) ?_
    refine V_getf rfl rfl rfl (by repeat (first | exact hup_eq | assumption | refine Eq.trans (hup_ne (by first | assumption | exact Ne.symm (by assumption) | decide | omega)) ?_)) (by first | rfl | assumption) ?_
    refine V_getf rfl rfl rfl (by repeat (first | exact hup_eq | assumption | refine Eq.trans (hup_ne (by first | assumption | exact Ne.symm (by assumption) | decide | omega)) ?_)) (by first | rfl | assumption) ?_
    refine V_iconst (v := nI 1) rfl (by decide) ?_
    refine V_aload_n rfl (by first | rfl | assumption) ?_
    refine V_getf rfl rfl rfl (by repeat (first | exact hup_eq | assumption | refine Eq.trans (hup_ne (by first | assumption | exact Ne.symm (by assumption) | decide | omega)) ?_)) (by first | rfl | assumption) ?_
    refine V_getf rfl rfl rfl (by repeat (first | exact hup_eq | assumption | refine Eq.trans (hup_ne (by first | assumption | exact Ne.symm (by assumption) | decide | omega)) ?_)) (by first | rfl | assumption) ?_
    refine V_iconst (v := nI 1) rfl (by decide) ?_
    refine V_isubN rfl (by first | omega | decide) ?_
    refine V_callV (M' := mX6_putAll) (mc := 0) (ms := 0) (bc' := 0) (bs' := 0) rfl cw_X11_143 iv_X6_putAll (by repeat (first | exact hup_eq | assumption | refine Eq.trans (hup_ne (by first | assumption | exact Ne.symm (by assumption) | decide | omega)) ?_)) rfl rfl (Nat.le_of_ble_eq_true rfl) ⟨Nat.le_of_ble_eq_true rfl, Nat.le_of_ble_eq_true rfl⟩ ⟨Nat.le_of_ble_eq_true rfl, Nat.le_of_ble_eq_true rfl⟩ (As := [.ref 133, .int (nI 1), .int (nI (p.length - 1))]) (c_putSg (Q := fun o G6 => o = .inl none ∧ FP (fun j => j = EB e + 4 ∨ j = EB e + 5) G5 G6 ∧ Rw G6 (EB e + 4) (EB e + 5) 2000 (gt (S2.1 e) ++ p.drop 1)) v5 (r4.sg (s := 1) (n := p.length - 1) (by decide) (by omega)) (by omega) (by decide) (fun G6 h1 h2 => ⟨rfl, h1, by rw [hdr]; exact h2⟩)) (fun o G6 h => ?_) (fun E G' h => by cases h.1)
    obtain ⟨h00, F6, r6⟩ := h
    cases h00
    refine V_goto rfl ?_
    refine fi9 _ _ _ rfl F6 (fun x hx => by omega) ?_
    refine R4.one he (F6.sub (fun x hx => by omega)) ?_
    exact ⟨F6.get (by omega) v1, v2.fp (F6.2 _ (by omega)), v3.fp (F6.2 _ (by omega)), v4.fp (F6.2 _ (by omega)), r6, v6.fp (fun j a c => F6.2 j (by omega)), (v7.fp (fun j a c => F6.2 j (by omega))).sta (fun _ _ _ => rfl) (fun _ _ _ => rfl), (v8.fp (fun j a c => F6.2 j (by omega))).sta (fun _ _ => rfl) rfl⟩
  have A : act T S2 e p q = emt T S2 e (3 :: be4 q) := by unfold act; rw [if_neg (by omega), if_neg (by omega), if_neg (by omega), if_neg (by omega), if_neg (by omega), if_neg (by omega), if_neg (by omega), if_neg (by omega)]
  rw [A] at fi9
  refine V_lookupN rfl (by decide) (by omega) (o := 181) ?_ (g := 285) (by decide) ?_
  · simp only [Op.lookupswitch.offset]
    rw [if_neg (by omega), if_neg (by omega), if_neg (by omega), if_neg (by omega), if_neg (by omega), if_neg (by omega), if_neg (by omega), if_neg (by omega)]
  · refine V_aload_n rfl (by first | rfl | assumption) ?_
    refine V_aload_n rfl (by first | rfl | assumption) ?_
    refine V_iload_n rfl (by first | rfl | assumption) ?_
    refine V_callV (M' := mX11_answerUnknown) (mc := 0) (ms := 0) (bc' := 0) (bs' := 0) rfl cw_X11_298 iv_X11_answerUnknown (by repeat (first | exact hup_eq | assumption | refine Eq.trans (hup_ne (by first | assumption | exact Ne.symm (by assumption) | decide | omega)) ?_)) rfl rfl (Nat.le_of_ble_eq_true rfl) ⟨Nat.le_of_ble_eq_true rfl, Nat.le_of_ble_eq_true rfl⟩ ⟨Nat.le_of_ble_eq_true rfl, Nat.le_of_ble_eq_true rfl⟩ (As := [.ref (EB e), .int (nI q)]) (c_answerUnknown (T := T) (S := S2) (q := q) (Q := fun o G6 => o = .inl none ∧ FP (fun j => (19 ≤ j ∧ j ≤ 123) ∨ j = 134 ∨ j = 135) G5 G6 ∧ RC (emt T S2 e (3 :: be4 q)) G6) he hT R4 (by omega) (by omega) (fun G6 h1 h2 => ⟨rfl, h1, h2⟩)) (fun o G6 h => ?_) (fun E G' h => by cases h.1)
    obtain ⟨h00, F6, R6⟩ := h
    cases h00
    exact fi9 _ _ _ rfl F6 (fun x hx => by omega) R6
end CClass10
