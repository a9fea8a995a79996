section CClass6
variable {K : kK} {G : kG} {Q : kO → kG → Prop}
theorem up_up {α : Type} {f : Nat → α} {k : Nat} {x y : α} : up (up f k x) k y = up f k y := by
  funext j
  unfold up
  split <;> rfl
theorem sE_sE {S : SG} {e : Nat} {a b : ES} : sE (sE S e a) e b = sE S e b := by unfold sE; rw [up_up]
theorem sE_get {S : SG} {e : Nat} {a : ES} : (sE S e a).1 e = a := up_eq
theorem sE_ne {S : SG} {e k : Nat} {a : ES} (h : k ≠ e) : (sE S e a).1 k = S.1 k := up_ne h
theorem emt_nm {T : TB} {S : SG} {e k : Nat} {p : List Nat} : nm ((emt T S e p).1 k) 0 ≤ nm (S.1 k) 0 + 1 := by
  unfold emt
  split
  · omega
  · split
    · by_cases h : k = e
      · subst h; rw [sE_get]; show nm (S.1 k) 0 ≤ _; omega
      · rw [sE_ne h]; omega
    · by_cases h : k = e
      · subst h; rw [sE_get]; show nm (S.1 k) 0 + 1 ≤ _; omega
      · rw [sE_ne h]
        by_cases h2 : k = 1 - e
        · subst h2; rw [sE_get]; show nm (S.1 (1 - e)) 0 ≤ _; omega
        · rw [sE_ne h2]; omega
/-- only the exchange of an end is another one -/
theorem RE.x {E : Nat} {s s' : ES} {G' : kG} (h : RE E s G) (e : ∀ j, E ≤ j → j ≤ E + 37 → G'.1 j = G.1 j) (hx : XR E s' G') (h1 : ∀ k, k = 0 ∨ k = 1 ∨ k = 6 ∨ k = 7 → fl s' k = fl s k) (h2 : ∀ k, k ≤ 2 ∨ (6 ≤ k ∧ k ≤ 9) → rw9 s' k = rw9 s k) (h3 : s'.2.1 = s.2.1 ∧ un s' = un s ∧ gt s' = gt s ∧ wi s' = wi s) : RE E s' G' := by
  obtain ⟨k1, k2, k3, k4, k5, k6, k7, k8⟩ := h
  refine ⟨?_, ?_, ?_, ?_, ?_, ?_, ?_, hx⟩
  · rw [e _ (by omega) (by omega), k1]
    have : ENO E s' = ENO E s := by
      unfold ENO
      rw [h1 0 (by omega), h1 1 (by omega), show nm s' = nm s from h3.1, h3.2.1]
    rw [this]
  · rw [h2 0 (by omega)]; exact k2.fp (e _ (by omega) (by omega))
  · rw [h2 1 (by omega)]; exact k3.fp (e _ (by omega) (by omega))
  · rw [h2 2 (by omega)]; exact k4.fp (e _ (by omega) (by omega))
  · rw [h3.2.2.1]; exact k5.fp (e _ (by omega) (by omega)) (e _ (by omega) (by omega))
  · rw [h3.2.2.2]; exact k6.fp (fun j a c => e j (by omega) (by omega))
  · exact (k7.fp (fun j a c => e j (by omega) (by omega))).sta (fun k a c => h1 k (by omega)) (fun k a c => h2 k (by omega))
theorem RC.x {S : SG} {e : Nat} {s' : ES} {G' : kG} (he : e < 2) (h : RC S G) (F : FP (fun j => (2 ≤ j ∧ j ≤ 13) ∨ (EB e + 38 ≤ j ∧ j ≤ EB e + 45)) G G') (hc : crv G') (hx : XR (EB e) s' G') (h1 : ∀ k, k = 0 ∨ k = 1 ∨ k = 6 ∨ k = 7 → fl s' k = fl (S.1 e) k) (h2 : ∀ k, k ≤ 2 ∨ (6 ≤ k ∧ k ≤ 9) → rw9 s' k = rw9 (S.1 e) k) (h3 : s'.2.1 = (S.1 e).2.1 ∧ un s' = un (S.1 e) ∧ gt s' = gt (S.1 e) ∧ wi s' = wi (S.1 e)) : RC (sE S e s') G' := by
  have hEe : EB e = 32 + 46 * e := rfl
  refine ⟨?_, fun k hk => ?_⟩
  · obtain ⟨m, b, q1, q2⟩ := h.1.2.2.2.2.2.2.2.1
    obtain ⟨m', b', q1', q2'⟩ := h.1.2.2.2.2.2.2.2.2.1
    exact h.1.up hc (h.1.2.1.fp (fun j a c => F.2 j (by omega))) (h.1.2.2.1.fp (fun j a c => F.2 j (by omega))) (fun c a d => by obtain ⟨b, hb⟩ := h.1.2.2.2.2.2.1 c a d; exact ⟨b, F.get (by omega) hb⟩) ⟨m, b, F.get (by omega) q1, F.get (by omega) q2⟩ ⟨m', b', F.get (by omega) q1', F.get (by omega) q2'⟩ (fun j hj => F.2 j (by omega))
  · by_cases ek : k = e
    · subst ek
      rw [sE_get]
      exact (h.2 k hk).x (fun j a c => F.2 j (by omega)) hx h1 h2 h3
    · rw [sE_ne ek]
      exact (h.2 k hk).fp (fun j a c => F.2 j (by unfold EB at a c ⊢; omega))

set_option maxHeartbeats 32000000 in
theorem c_onInit {e : Nat} {S : SG} {c9 : List Nat} {T : TB} (he : e < 2) (hT : tbl K T) (h : RC S G) (hi : Rw G 132 133 200 c9) (hc : 9 ≤ c9.length) (hsent : nm (S.1 e) 0 < 2 ^ 30) (hq : ∀ G', FP (fun j => (2 ≤ j ∧ j ≤ 13) ∨ (19 ≤ j ∧ j ≤ 123) ∨ j = 134 ∨ j = 135) G G' → RC (onI T S e c9) G' → Q (.inl none) G') : C K 0 0 mX11_onInit [.ref 0, .ref (EB e)] G Q := by
  obtain ⟨tp, sp, g0⟩ := h.sw
  have hEe : EB e = 32 + 46 * e := rfl
  obtain ⟨x1, -, -, -, -, -, -, k1, k2, ⟨oi, o1, o2, o3⟩, k4, k5, k6, k7, k8⟩ := id (h.2 e he)
  obtain ⟨i1, i2, ib, i3, i4, i5⟩ := id hi
  have FA : FP (fun j => (2 ≤ j ∧ j ≤ 13) ∨ (19 ≤ j ∧ j ≤ 123) ∨ j = 134 ∨ j = 135) G G := FP.rf
  refine C_of okX11_onInit (Nat.le_of_ble_eq_true rfl) ?_
  refine V_aload_n rfl (by first | rfl | assumption) ?_
  refine V_getf rfl rfl rfl (by repeat (first | exact hup_eq | assumption | refine Eq.trans (hup_ne (by first | assumption | exact Ne.symm (by assumption) | decide | omega)) ?_)) (by first | rfl | assumption) ?_
  refine V_astore_n rfl (by decide) ?_
  refine V_aload_n rfl (by first | rfl | assumption) ?_
  refine V_getf rfl rfl rfl (by repeat (first | exact hup_eq | assumption | refine Eq.trans (hup_ne (by first | assumption | exact Ne.symm (by assumption) | decide | omega)) ?_)) (by first | rfl | assumption) ?_
  refine V_getf rfl rfl rfl (by repeat (first | exact hup_eq | assumption | refine Eq.trans (hup_ne (by first | assumption | exact Ne.symm (by assumption) | decide | omega)) ?_)) (by first | rfl | assumption) ?_
  refine V_iconst (v := nI 0) rfl (by decide) ?_
  refine V_aload_n rfl (by first | rfl | assumption) ?_
  refine V_getf rfl rfl rfl (by repeat (first | exact hup_eq | assumption | refine Eq.trans (hup_ne (by first | assumption | exact Ne.symm (by assumption) | decide | omega)) ?_)) (by first | rfl | assumption) ?_
  refine V_iconst (v := nI 0) rfl (by decide) ?_
  refine V_bipush (v := nI 9) rfl (by decide) ?_
  refine V_copyi (st := []) rfl ⟨kk_X11_108, k_ac⟩ i3 o1 (by decide) (by decide) (by decide) (by decide) (by decide) (by decide) (by decide) ?_
  rw [show (nI 0).toNatClampNeg = 0 by decide, show (nI 9).toNatClampNeg = 9 by decide, cpyB]
  refine V_aload_n rfl (by first | rfl | assumption) ?_
  refine V_iconst (v := nI 1) rfl (by decide) ?_
  refine V_putf rfl rfl rfl rfl (by repeat (first | exact hup_eq | assumption | refine Eq.trans (hup_ne (by first | assumption | exact Ne.symm (by assumption) | decide | omega)) ?_)) (Nat.le_of_ble_eq_true rfl) (by first | exact ⟨rfl, rfl⟩ | (constructor <;> decide)) ?_
  obtain ⟨G0, hG0⟩ : ∃ G0, G0 = hup (hup G (EB e + 40) (BA 9 (fun j => if j < 9 then ib j else oi j))) (EB e + 38) (XO (EB e) (fl (S.1 e) 2) true (fl (S.1 e) 4) (fl (S.1 e) 8) (fl (S.1 e) 5)) := ⟨_, rfl⟩
  show V K 0 0 _ _ _ _ (hup (hup G (EB e + 40) (BA 9 (fun j => if j < 9 then ib j else oi j))) (EB e + 38) (XO (EB e) (fl (S.1 e) 2) true (fl (S.1 e) 4) (fl (S.1 e) 8) (fl (S.1 e) 5))) Q
  rw [← hG0]
  have F0 : FP (fun j => j = EB e + 38 ∨ j = EB e + 40) G G0 := by rw [hG0]; exact (FP.rf.hup (Or.inr rfl)).hup (Or.inl rfl)
  have i38 : G0.1 (EB e + 38) = some (XO (EB e) (fl (S.1 e) 2) true (fl (S.1 e) 4) (fl (S.1 e) 8) (fl (S.1 e) 5)) := by rw [hG0]; exact hup_eq
  have i40 : G0.1 (EB e + 40) = some (BA 9 (fun j => if j < 9 then ib j else oi j)) := by rw [hG0, hup_ne (by omega)]; exact hup_eq
  clear hG0
  obtain ⟨s1, hs1⟩ : ∃ s1, s1 = sfl (srw (S.1 e) 5 (gD c9)) 3 true := ⟨_, rfl⟩
  have R0 : RC (sE S e s1) G0 := by
    refine h.x he (F0.sub (fun x hx => by omega)) (h.1.1.fp (fun j a c => F0.2 j (by omega))) ⟨?_, ?_, ?_, ?_, ?_, ?_, ?_, ?_⟩ (fun k hk => by rw [hs1]; exact up_ne (by omega)) (fun k hk => by rw [hs1]; exact up_ne (by omega)) (by rw [hs1]; exact ⟨rfl, rfl, rfl, rfl⟩)
    · rw [hs1]; exact i38
    · rw [hs1]; exact k2.fp (F0.2 _ (by omega))
    · rw [hs1]; exact ⟨_, i40, fun j hj => by show (if j < 9 then ib j else oi j) = gD c9 j; rw [if_pos hj, gD_of i4 (by omega)], fun j hj => by show gD c9 j < 256; rw [gD_of i4 (by omega)]; exact i5 j (by omega)⟩
    · rw [hs1]; exact k4.fp (F0.2 _ (by omega))
    · rw [hs1]; obtain ⟨f, q1, q2⟩ := k5; exact ⟨f, q1.fp (F0.2 _ (by omega)), q2⟩
    · rw [hs1]; obtain ⟨f, q1, q2⟩ := k6; exact ⟨f, F0.get (by omega) q1, q2⟩
    · rw [hs1]; exact k7.fp (F0.2 _ (by omega))
    · rw [hs1]; exact k8.fp (F0.2 _ (by omega))
  have hs1n : nm s1 0 = nm (S.1 e) 0 := by rw [hs1]; rfl
  have hs12 : fl s1 2 = fl (S.1 e) 2 := by rw [hs1]; rfl
  have FA := FA.trans F0 (fun x hx => by omega)
  have g0 := F0.get (by omega) g0
  have hi := hi.fp (F0.2 _ (by omega)) (F0.2 _ (by omega))
  have hD : onI T S e c9 = (if e = 0 then (let S3 := tks (if fl s1 2 then sE S e s1 else bgn T (sE S e s1) e) 0; emt T (sE S3 0 (sfl (S3.1 0) 4 true)) 0 (30 :: lst (pub (S3.1 0)) 32)) else (if fl s1 2 then sE S e s1 else bgn T (sE S e s1) e)) := by
    unfold onI
    rw [← hs1]
    simp only [sE_get]
  rw [hD] at hq
  clear hD
  obtain ⟨S2, hS2⟩ : ∃ S2, S2 = (if fl s1 2 then sE S e s1 else bgn T (sE S e s1) e) := ⟨_, rfl⟩
  rw [← hS2] at hq
  /- from the place behind the own INIT on -/
  have go : ∀ (lc : kLo) (G1 : kG), lc 0 = some (.ref 0) → lc 1 = some (.ref (EB e)) → lc 2 = some (.ref (EB e + 38)) → FP (fun j => (2 ≤ j ∧ j ≤ 13) ∨ (19 ≤ j ∧ j ≤ 123) ∨ j = 134 ∨ j = 135) G G1 → RC S2 G1 → nm (S2.1 e) 0 < 2 ^ 31 - 5 → V K 0 0 mX11_onInit 45 lc [] G1 Q := by
    intro lc G1 l0 l1 l2 FA R1 hn
    obtain ⟨tp, sp, g0⟩ := R1.sw
    have hcs : e = 0 ∨ e = 1 := by omega
    rcases hcs with rfl | rfl
    rotate_left
    · refine V_aload_n rfl (by first | rfl | assumption) ?_
      refine V_aload_n rfl (by first | rfl | assumption) ?_
      refine V_getf rfl rfl rfl (by repeat (first | exact hup_eq | assumption | refine Eq.trans (hup_ne (by first | assumption | exact Ne.symm (by assumption) | decide | omega)) ?_)) (by first | rfl | assumption) ?_
      refine V_acmp_ne rfl (by decide) (by decide) (fun _ => ?_) (fun h => absurd h (by decide))
      exact V_vret rfl rfl (hq G1 FA R1)
    rw [if_pos rfl] at hq
    have hE0 : EB 0 = 32 := rfl
    obtain ⟨x1, -, -, -, -, -, -, k1, k2, k3, k4, k5, k6, k7, k8⟩ := id (R1.2 0 he)
    refine V_aload_n rfl (by first | rfl | assumption) ?_
    refine V_aload_n rfl (by first | rfl | assumption) ?_
    refine V_getf rfl rfl rfl (by repeat (first | exact hup_eq | assumption | refine Eq.trans (hup_ne (by first | assumption | exact Ne.symm (by assumption) | decide | omega)) ?_)) (by first | rfl | assumption) ?_
    refine V_acmp_ne rfl (by decide) (by decide) (fun h => absurd rfl h) (fun _ => ?_)

    refine V_aload_n rfl (by first | rfl | assumption) ?_
    refine V_aload_n rfl (by first | rfl | assumption) ?_
    refine V_getf rfl rfl rfl (by repeat (first | exact hup_eq | assumption | refine Eq.trans (hup_ne (by first | assumption | exact Ne.symm (by assumption) | decide | omega)) ?_)) (by first | rfl | assumption) ?_
    refine V_callV (M' := mX11_takeSecret) (mc := 0) (ms := 0) (bc' := 0) (bs' := 0) rfl cw_X11_317 iv_X11_takeSecret (by repeat (first | exact hup_eq | assumption | refine Eq.trans (hup_ne (by first | assumption | exact Ne.symm (by assumption) | decide | omega)) ?_)) rfl rfl (Nat.le_of_ble_eq_true rfl) ⟨Nat.le_of_ble_eq_true rfl, Nat.le_of_ble_eq_true rfl⟩ ⟨Nat.le_of_ble_eq_true rfl, Nat.le_of_ble_eq_true rfl⟩ (As := [.ref (EB 0)]) (c_takeSecret (T := T) (Q := fun o G2 => o = .inl none ∧ FP (fun j => (2 ≤ j ∧ j ≤ 13) ∨ j = EB 0 + 41 ∨ j = EB 0 + 42) G1 G2 ∧ crv G2 ∧ Rb G2 (EB 0 + 41) 32 (rw9 (S2.1 0) 0) ∧ Rb G2 (EB 0 + 42) 32 (mulB (rw9 (S2.1 0) 0) nine)) he hT R1 (fun G2 q0 q1 q2 q3 => ⟨rfl, q0, q1, q2, q3⟩)) (fun o G2 h => ?_) (fun E G' h => by cases h.1)
    obtain ⟨h0, F2, hcr, r41, r42⟩ := h
    cases h0
    have FA := FA.trans F2 (fun x hx => by omega)
    have g0 := F2.get (by omega) g0
    have x1 := F2.get (by omega) x1
    have k1 := F2.get (by omega) k1
    have k2 := k2.fp (F2.2 _ (by omega))
    have k3 := k3.fp (F2.2 _ (by omega))
    have k7 := k7.fp (F2.2 _ (by omega))
    have k8 := k8.fp (F2.2 _ (by omega))
    refine V_aload_n rfl (by first | rfl | assumption) ?_
    refine V_iconst (v := nI 1) rfl (by decide) ?_
    refine V_putf rfl rfl rfl rfl (by repeat (first | exact hup_eq | assumption | refine Eq.trans (hup_ne (by first | assumption | exact Ne.symm (by assumption) | decide | omega)) ?_)) (Nat.le_of_ble_eq_true rfl) (by first | exact ⟨rfl, rfl⟩ | (constructor <;> decide)) ?_
    show V K 0 0 _ _ _ _ (hup G2 (EB 0 + 38) (XO (EB 0) (fl (S2.1 0) 2) (fl (S2.1 0) 3) true (fl (S2.1 0) 8) (fl (S2.1 0) 5))) Q
    obtain ⟨G3, hG3⟩ : ∃ G3, G3 = hup G2 (EB 0 + 38) (XO (EB 0) (fl (S2.1 0) 2) (fl (S2.1 0) 3) true (fl (S2.1 0) 8) (fl (S2.1 0) 5)) := ⟨_, rfl⟩
    rw [← hG3]
    have F3 : FP (fun j => j = EB 0 + 38) G2 G3 := by rw [hG3]; exact FP.rf.hup rfl
    have j38 : G3.1 (EB 0 + 38) = some (XO (EB 0) (fl (S2.1 0) 2) (fl (S2.1 0) 3) true (fl (S2.1 0) 8) (fl (S2.1 0) 5)) := by rw [hG3]; exact hup_eq
    clear hG3
    obtain ⟨s3, hs3⟩ : ∃ s3, s3 = sfl (srw (S2.1 0) 3 (rw9 (S2.1 0) 0)) 4 true := ⟨_, rfl⟩
    have hE2 : sE (tks S2 0) 0 (sfl ((tks S2 0).1 0) 4 true) = sE S2 0 s3 := by
      unfold tks
      rw [sE_get, sE_sE, hs3]
    have hP2 : pub ((tks S2 0).1 0) = pub s3 := by
      unfold tks
      rw [sE_get, hs3]
      rfl
    simp only [hE2, hP2] at hq
    have hpb : pub s3 = mulB (rw9 (S2.1 0) 0) nine := by rw [hs3]; rfl
    have FA := FA.trans F3 (fun x hx => by omega)
    have g0 := F3.get (by omega) g0
    have x1 := F3.get (by omega) x1
    have k2 := k2.fp (F3.2 _ (by omega))
    have k3 := k3.fp (F3.2 _ (by omega))
    have k7 := k7.fp (F3.2 _ (by omega))
    have k8 := k8.fp (F3.2 _ (by omega))
    have r41 := r41.fp (F3.2 _ (by omega))
    have r42 := r42.fp (F3.2 _ (by omega))
    have hcr := hcr.fp (fun j a c => F3.2 j (by omega))
    have FX : FP (fun j => (2 ≤ j ∧ j ≤ 13) ∨ (EB 0 + 38 ≤ j ∧ j ≤ EB 0 + 45)) G1 G3 := (F2.sub (P' := fun j => (2 ≤ j ∧ j ≤ 13) ∨ (EB 0 + 38 ≤ j ∧ j ≤ EB 0 + 45)) (fun x hx => by omega)).trans F3 (fun x hx => by omega)
    have R3 : RC (sE S2 0 s3) G3 := by
      refine R1.x he FX hcr ⟨?_, ?_, ?_, ?_, ?_, ?_, ?_, ?_⟩ (fun k hk => by rw [hs3]; exact up_ne (by omega)) (fun k hk => by rw [hs3]; exact up_ne (by omega)) (by rw [hs3]; exact ⟨rfl, rfl, rfl, rfl⟩)
      · rw [hs3]; exact j38
      · rw [hs3]; exact k2
      · rw [hs3]; exact k3
      · rw [hs3]; exact r41
      · exact ⟨_, r42, fun _ j _ => by rw [hpb]⟩
      · rw [hs3]; obtain ⟨f, q1, q2⟩ := k6; exact ⟨f, F3.get (by omega) (F2.get (by omega) q1), q2⟩
      · rw [hs3]; exact k7
      · rw [hs3]; exact k8
    obtain ⟨m, b, q1, q2⟩ := R3.1.2.2.2.2.2.2.2.2.1
    refine V_aload_n rfl (by first | rfl | assumption) ?_
    refine V_getf rfl rfl rfl (by repeat (first | exact hup_eq | assumption | refine Eq.trans (hup_ne (by first | assumption | exact Ne.symm (by assumption) | decide | omega)) ?_)) (by first | rfl | assumption) ?_
    refine V_callV (M' := mX6_clear) (mc := 0) (ms := 0) (bc' := 0) (bs' := 0) rfl cw_X11_139 iv_X6_clear (by repeat (first | exact hup_eq | assumption | refine Eq.trans (hup_ne (by first | assumption | exact Ne.symm (by assumption) | decide | omega)) ?_)) rfl rfl (Nat.le_of_ble_eq_true rfl) ⟨Nat.le_of_ble_eq_true rfl, Nat.le_of_ble_eq_true rfl⟩ ⟨Nat.le_of_ble_eq_true rfl, Nat.le_of_ble_eq_true rfl⟩ (As := []) (c_clearU (Q := fun o G4 => o = .inl none ∧ FP (fun j => j = 134) G3 G4 ∧ Rw G4 134 135 200 []) q1 q2 (fun G4 q0 q1 => ⟨rfl, q0, q1⟩)) (fun o G4 h => ?_) (fun E G' h => by cases h.1)
    obtain ⟨h0, F4, r1⟩ := h
    cases h0
    have FA := FA.trans F4 (fun x hx => by omega)
    have g0 := F4.get (by omega) g0
    have x1 := F4.get (by omega) x1
    have j38 := F4.get (by omega) j38
    have r42 := r42.fp (F4.2 _ (by omega))
    have hr1 := r1.1
    have FO : FP (fun j => j = 134 ∨ j = 135) G3 G4 := F4.sub (fun x hx => by omega)
    refine V_aload_n rfl (by first | rfl | assumption) ?_
    refine V_getf rfl rfl rfl (by repeat (first | exact hup_eq | assumption | refine Eq.trans (hup_ne (by first | assumption | exact Ne.symm (by assumption) | decide | omega)) ?_)) (by first | rfl | assumption) ?_
    refine V_bipush (v := nI 30) rfl (by decide) ?_
    refine V_callV (M' := mX6_put) (mc := 0) (ms := 0) (bc' := 0) (bs' := 0) rfl cw_X11_84 iv_X6_put (by repeat (first | exact hup_eq | assumption | refine Eq.trans (hup_ne (by first | assumption | exact Ne.symm (by assumption) | decide | omega)) ?_)) rfl rfl (Nat.le_of_ble_eq_true rfl) ⟨Nat.le_of_ble_eq_true rfl, Nat.le_of_ble_eq_true rfl⟩ ⟨Nat.le_of_ble_eq_true rfl, Nat.le_of_ble_eq_true rfl⟩ (As := [.int (nI 30)]) (c_putL (x := 30) (Q := fun o G5 => o = .inl none ∧ FP (fun j => j = 134 ∨ j = 135) G4 G5 ∧ Rw G5 134 135 200 [30]) r1 (by decide) (by decide) (by decide) (fun G5 q0 q1 => ⟨rfl, q0, q1⟩)) (fun o G5 h => ?_) (fun E G' h => by cases h.1)
    obtain ⟨h0, F5, r1⟩ := h
    cases h0
    have FA := FA.trans F5 (fun x hx => by omega)
    have g0 := F5.get (by omega) g0
    have x1 := F5.get (by omega) x1
    have j38 := F5.get (by omega) j38
    have r42 := r42.fp (F5.2 _ (by omega))
    have FO := FO.trans F5 (fun x hx => by omega)
    have hr1 := r1.1
    refine V_aload_n rfl (by first | rfl | assumption) ?_
    refine V_getf rfl rfl rfl (by repeat (first | exact hup_eq | assumption | refine Eq.trans (hup_ne (by first | assumption | exact Ne.symm (by assumption) | decide | omega)) ?_)) (by first | rfl | assumption) ?_
    refine V_aload_n rfl (by first | rfl | assumption) ?_
    refine V_getf rfl rfl rfl (by repeat (first | exact hup_eq | assumption | refine Eq.trans (hup_ne (by first | assumption | exact Ne.symm (by assumption) | decide | omega)) ?_)) (by first | rfl | assumption) ?_
    refine V_iconst (v := nI 0) rfl (by decide) ?_
    refine V_bipush (v := nI 32) rfl (by decide) ?_
    refine V_callV (M' := mX6_putAll) (mc := 0) (ms := 0) (bc' := 0) (bs' := 0) rfl cw_X11_143 iv_X6_putAll (by repeat (first | exact hup_eq | assumption | refine Eq.trans (hup_ne (by first | assumption | exact Ne.symm (by assumption) | decide | omega)) ?_)) rfl rfl (Nat.le_of_ble_eq_true rfl) ⟨Nat.le_of_ble_eq_true rfl, Nat.le_of_ble_eq_true rfl⟩ ⟨Nat.le_of_ble_eq_true rfl, Nat.le_of_ble_eq_true rfl⟩ (As := [.ref (EB 0 + 42), .int (nI 0), .int (nI 32)]) (c_putSg (Q := fun o G6 => o = .inl none ∧ FP (fun j => j = 134 ∨ j = 135) G5 G6 ∧ Rw G6 134 135 200 (30 :: lst (pub s3) 32)) r1 (r42.sg (by decide)) (by decide) (by decide) (fun G6 q0 q1 => ⟨rfl, q0, by rw [hpb]; exact q1⟩)) (fun o G6 h => ?_) (fun E G' h => by cases h.1)
    obtain ⟨h0, F6, r1⟩ := h
    cases h0
    have FA := FA.trans F6 (fun x hx => by omega)
    have g0 := F6.get (by omega) g0
    have x1 := F6.get (by omega) x1
    have j38 := F6.get (by omega) j38
    have r42 := r42.fp (F6.2 _ (by omega))
    have FO := FO.trans F6 (fun x hx => by omega)
    have R6 := R3.out FO r1
    refine V_aload_n rfl (by first | rfl | assumption) ?_
    refine V_aload_n rfl (by first | rfl | assumption) ?_
    refine V_getf rfl rfl rfl (by repeat (first | exact hup_eq | assumption | refine Eq.trans (hup_ne (by first | assumption | exact Ne.symm (by assumption) | decide | omega)) ?_)) (by first | rfl | assumption) ?_
    refine V_callV (M' := mX11_emit) (mc := 0) (ms := 0) (bc' := 0) (bs' := 0) rfl cw_X11_184 iv_X11_emit (by repeat (first | exact hup_eq | assumption | refine Eq.trans (hup_ne (by first | assumption | exact Ne.symm (by assumption) | decide | omega)) ?_)) rfl rfl (Nat.le_of_ble_eq_true rfl) ⟨Nat.le_of_ble_eq_true rfl, Nat.le_of_ble_eq_true rfl⟩ ⟨Nat.le_of_ble_eq_true rfl, Nat.le_of_ble_eq_true rfl⟩ (As := [.ref (EB 0)]) (c_emit (T := T) (S := sE S2 0 s3) (p := 30 :: lst (pub s3) 32) (Q := fun o G7 => o = .inl none ∧ FP (fun j => 19 ≤ j ∧ j ≤ 123) G6 G7 ∧ RC (emt T (sE S2 0 s3) 0 (30 :: lst (pub s3) 32)) G7) he hT R6 r1 (by rw [sE_get, hs3]; show nm (S2.1 0) 0 < _; omega) (fun G7 q0 q1 => ⟨rfl, q0, q1⟩)) (fun o G7 h => ?_) (fun E G' h => by cases h.1)
    obtain ⟨h0, F7, R7⟩ := h
    cases h0
    have FA := FA.trans F7 (fun x hx => by omega)
    exact V_vret rfl rfl (hq _ FA R7)

  refine V_aload_n rfl (by first | rfl | assumption) ?_
  refine V_getf rfl rfl rfl (by repeat (first | exact hup_eq | assumption | refine Eq.trans (hup_ne (by first | assumption | exact Ne.symm (by assumption) | decide | omega)) ?_)) (by first | rfl | assumption) ?_
  by_cases h2 : fl (S.1 e) 2 = true
  · rw [h2]
    refine V_if_ne rfl (fun _ => ?_) (fun h => absurd h (by decide))
    rw [if_pos (by rw [hs12]; exact h2)] at hS2
    exact go _ G0 rfl rfl rfl FA (by rw [hS2]; exact R0) (by rw [hS2, sE_get, hs1n]; omega)
  · have h2' : fl (S.1 e) 2 = false := by cases hh : fl (S.1 e) 2 with | false => rfl | true => exact absurd hh h2
    rw [h2']
    refine V_if_ne rfl (fun h => absurd rfl h) (fun _ => ?_)
    rw [if_neg (by rw [hs12]; exact h2)] at hS2

    refine V_aload_n rfl (by first | rfl | assumption) ?_
    refine V_aload_n rfl (by first | rfl | assumption) ?_
    refine V_callV (M' := mX11_writeInit) (mc := 0) (ms := 0) (bc' := 0) (bs' := 0) rfl cw_X11_180 iv_X11_writeInit (by repeat (first | exact hup_eq | assumption | refine Eq.trans (hup_ne (by first | assumption | exact Ne.symm (by assumption) | decide | omega)) ?_)) rfl rfl (Nat.le_of_ble_eq_true rfl) ⟨Nat.le_of_ble_eq_true rfl, Nat.le_of_ble_eq_true rfl⟩ ⟨Nat.le_of_ble_eq_true rfl, Nat.le_of_ble_eq_true rfl⟩ (As := [.ref (EB e)]) (c_writeInit (S := sE S e s1) (Q := fun o G2 => o = .inl none ∧ FP (fun j => (32 ≤ j ∧ j ≤ 123) ∨ j = 134 ∨ j = 135) G0 G2 ∧ RC (wIn (sE S e s1) e) G2 ∧ Rw G2 134 135 200 (lst (oinit s1) 9)) he R0 (fun G2 q0 q1 q2 => ⟨rfl, q0, q1, by rw [sE_get] at q2; exact q2⟩)) (fun o G2 h => ?_) (fun E G' h => by cases h.1)
    obtain ⟨h0, F2, R2, r2⟩ := h
    cases h0
    have FA := FA.trans F2 (fun x hx => by omega)
    have g0 := F2.get (by omega) g0
    refine V_aload_n rfl (by first | rfl | assumption) ?_
    refine V_aload_n rfl (by first | rfl | assumption) ?_
    refine V_callV (M' := mX11_emit) (mc := 0) (ms := 0) (bc' := 0) (bs' := 0) rfl cw_X11_184 iv_X11_emit (by repeat (first | exact hup_eq | assumption | refine Eq.trans (hup_ne (by first | assumption | exact Ne.symm (by assumption) | decide | omega)) ?_)) rfl rfl (Nat.le_of_ble_eq_true rfl) ⟨Nat.le_of_ble_eq_true rfl, Nat.le_of_ble_eq_true rfl⟩ ⟨Nat.le_of_ble_eq_true rfl, Nat.le_of_ble_eq_true rfl⟩ (As := [.ref (EB e)]) (c_emit (T := T) (S := wIn (sE S e s1) e) (p := lst (oinit s1) 9) (Q := fun o G3 => o = .inl none ∧ FP (fun j => 19 ≤ j ∧ j ≤ 123) G2 G3 ∧ RC (emt T (wIn (sE S e s1) e) e (lst (oinit s1) 9)) G3) he hT R2 r2 (by unfold wIn; rw [sE_get, sE_get]; show nm s1 0 < _; omega) (fun G3 q0 q1 => ⟨rfl, q0, q1⟩)) (fun o G3 h => ?_) (fun E G' h => by cases h.1)
    obtain ⟨h0, F3, R3⟩ := h
    cases h0
    have FA := FA.trans F3 (fun x hx => by omega)
    have g0 := F3.get (by omega) g0
    have hS2' : S2 = emt T (wIn (sE S e s1) e) e (lst (oinit s1) 9) := by rw [hS2]; unfold bgn; rw [sE_get]
    refine go _ _ rfl rfl rfl FA (by rw [hS2']; exact R3) ?_
    rw [hS2']
    have := emt_nm (T := T) (S := wIn (sE S e s1) e) (e := e) (k := e) (p := lst (oinit s1) 9)
    have e2 : nm ((wIn (sE S e s1) e).1 e) 0 = nm s1 0 := by unfold wIn; rw [sE_get, sE_get]; rfl
    omega

end CClass6
