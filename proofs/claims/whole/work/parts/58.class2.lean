section CClass2
variable {K : kK} {G : kG} {Q : kO → kG → Prop}
theorem RC.out {S : SG} {G' : kG} {p : List Nat} (h : RC S G) (F : FP (fun j => j = 134 ∨ j = 135) G G') (hp : Rw G' 134 135 200 p) : RC S G' :=
  ⟨h.1.sl (h.1.2.2.1.fp (fun j a c => F.2 j (by omega))) hp.ex (fun j hj => F.2 j (by omega)), fun e he => (h.2 e he).fp (fun j a c => F.2 j (by unfold EB at a c; omega))⟩
theorem RC.sw {S : SG} (h : RC S G) : ∃ tp sp, G.1 0 = some (SWO tp sp) := by
  obtain ⟨tp, sp, -, h1, -⟩ := h.1.2.2.2.2.2.2.2.2.2
  exact ⟨tp, sp, h1⟩
theorem c_writeSingle {tp sp m x : Nat} {b : Nat → Nat} (g0 : G.1 0 = some (SWO tp sp)) (g1 : G.1 134 = some (ROB 135 m)) (g2 : G.1 135 = some (BA 200 b)) (hx : x < 256) (hq : ∀ G', FP (fun j => j = 134 ∨ j = 135) G G' → Rw G' 134 135 200 [x] → Q (.inl none) G') : C K 0 0 mX11_writeSingle [.ref 0, .int (nI x)] G Q := by
  refine C_of okX11_writeSingle (Nat.le_of_ble_eq_true rfl) ?_
  refine V_aload_n rfl (by first | rfl | assumption) ?_
  refine V_getf rfl rfl rfl (by repeat (first | exact hup_eq | assumption | refine Eq.trans (hup_ne (by first | assumption | exact Ne.symm (by assumption) | decide | omega)) ?_)) (by first | rfl | assumption) ?_
  refine V_callV (M' := mX6_clear) (mc := 0) (ms := 0) (bc' := 0) (bs' := 0) rfl cw_X11_139 iv_X6_clear (by repeat (first | exact hup_eq | assumption | refine Eq.trans (hup_ne (by first | assumption | exact Ne.symm (by assumption) | decide | omega)) ?_)) rfl rfl (Nat.le_of_ble_eq_true rfl) ⟨Nat.le_of_ble_eq_true rfl, Nat.le_of_ble_eq_true rfl⟩ ⟨Nat.le_of_ble_eq_true rfl, Nat.le_of_ble_eq_true rfl⟩ (As := []) (c_clearU (Q := fun o G1 => o = .inl none ∧ FP (fun j => j = 134) G G1 ∧ Rw G1 134 135 200 []) g1 g2 (fun G1 h1 h2 => ⟨rfl, h1, h2⟩)) (fun o G1 h => ?_) (fun E G' h => by cases h.1)
  obtain ⟨h0, F1, r1⟩ := h
  cases h0
  have q0 := F1.get (by omega) g0
  have hr1 := r1.1
  refine V_aload_n rfl (by first | rfl | assumption) ?_
  refine V_getf rfl rfl rfl (by repeat (first | exact hup_eq | assumption | refine Eq.trans (hup_ne (by first | assumption | exact Ne.symm (by assumption) | decide | omega)) ?_)) (by first | rfl | assumption) ?_
  refine V_iload_n rfl (by first | rfl | assumption) ?_
  refine V_callV (M' := mX6_put) (mc := 0) (ms := 0) (bc' := 0) (bs' := 0) rfl cw_X11_84 iv_X6_put (by repeat (first | exact hup_eq | assumption | refine Eq.trans (hup_ne (by first | assumption | exact Ne.symm (by assumption) | decide | omega)) ?_)) rfl rfl (Nat.le_of_ble_eq_true rfl) ⟨Nat.le_of_ble_eq_true rfl, Nat.le_of_ble_eq_true rfl⟩ ⟨Nat.le_of_ble_eq_true rfl, Nat.le_of_ble_eq_true rfl⟩ (As := [.int (nI x)]) (c_putL (Q := fun o G3 => o = .inl none ∧ FP (fun j => j = 134 ∨ j = 135) G1 G3 ∧ Rw G3 134 135 200 [x]) r1 (by decide) (by decide) hx (fun G1 h1 h2 => ⟨rfl, h1, h2⟩)) (fun o G3 h => ?_) (fun E G' h => by cases h.1)
  obtain ⟨h0, F3, r3⟩ := h
  cases h0
  exact V_vret rfl rfl (hq G3 ((F1.sub (fun x hx => Or.inl hx)).trans F3 (fun x hx => hx)) r3)
/-- the end's life ends -/
theorem RC.dead {S : SG} {G' : kG} {e : Nat} (he : e < 2) (h : RC S G) (hg : G' = hup G (EB e) (ENO (EB e) (sfl (S.1 e) 0 false))) : RC (sE S e (sfl (S.1 e) 0 false)) G' := by
  have hEe : EB e = 32 + 46 * e := rfl
  subst hg
  refine ⟨h.1.sl (h.1.2.2.1.fp (fun j a c => hup_ne (by omega))) (by obtain ⟨m, b, q1, q2⟩ := h.1.2.2.2.2.2.2.2.2.1; exact ⟨m, b, (hup_ne (by omega)).trans q1, (hup_ne (by omega)).trans q2⟩) (fun j hj => hup_ne (by omega)), fun k hk => ?_⟩
  by_cases ek : k = e
  · subst ek
    show RE (EB k) (up S.1 k _ k) _
    rw [up_eq]
    exact (h.2 k hk).obj (fun j a c => hup_ne (by omega)) hup_eq (fun k a => up_ne (by omega)) rfl rfl rfl
  · show RE (EB k) (up S.1 e _ k) _
    rw [up_ne ek]
    exact (h.2 k hk).fp (fun j a c => hup_ne (by unfold EB at a c ⊢; omega))
theorem c_giveUp {e : Nat} {S : SG} {T : TB} (he : e < 2) (hT : tbl K T) (h : RC S G) (hsent : nm (S.1 e) 0 < 2 ^ 31) (hq : ∀ G', FP (fun j => (19 ≤ j ∧ j ≤ 123) ∨ j = 134 ∨ j = 135) G G' → RC (gvu T S e) G' → Q (.inl none) G') : C K 0 0 mX11_giveUp [.ref 0, .ref (EB e)] G Q := by
  obtain ⟨tp, sp, g0⟩ := h.sw
  obtain ⟨m, b, g1, g2⟩ := h.1.2.2.2.2.2.2.2.2.1
  have hEe : EB e = 32 + 46 * e := rfl
  refine C_of okX11_giveUp (Nat.le_of_ble_eq_true rfl) ?_
  refine V_aload_n rfl (by first | rfl | assumption) ?_
  refine V_iconst (v := nI 1) rfl (by decide) ?_
  refine V_callV (M' := mX11_writeSingle) (mc := 0) (ms := 0) (bc' := 0) (bs' := 0) rfl cw_X11_262 iv_X11_writeSingle (by repeat (first | exact hup_eq | assumption | refine Eq.trans (hup_ne (by first | assumption | exact Ne.symm (by assumption) | decide | omega)) ?_)) rfl rfl (Nat.le_of_ble_eq_true rfl) ⟨Nat.le_of_ble_eq_true rfl, Nat.le_of_ble_eq_true rfl⟩ ⟨Nat.le_of_ble_eq_true rfl, Nat.le_of_ble_eq_true rfl⟩ (As := [.int (nI 1)]) (c_writeSingle (x := 1) (Q := fun o G1 => o = .inl none ∧ FP (fun j => j = 134 ∨ j = 135) G G1 ∧ Rw G1 134 135 200 [1]) g0 g1 g2 (by decide) (fun G1 h1 h2 => ⟨rfl, h1, h2⟩)) (fun o G1 h => ?_) (fun E G' h => by cases h.1)
  obtain ⟨h0, F1, r1⟩ := h
  cases h0
  have R1 := h.out F1 r1
  obtain ⟨tp', sp', q0⟩ := R1.sw
  refine V_aload_n rfl (by first | rfl | assumption) ?_
  refine V_aload_n rfl (by first | rfl | assumption) ?_
  refine V_callV (M' := mX11_emit) (mc := 0) (ms := 0) (bc' := 0) (bs' := 0) rfl cw_X11_184 iv_X11_emit (by repeat (first | exact hup_eq | assumption | refine Eq.trans (hup_ne (by first | assumption | exact Ne.symm (by assumption) | decide | omega)) ?_)) rfl rfl (Nat.le_of_ble_eq_true rfl) ⟨Nat.le_of_ble_eq_true rfl, Nat.le_of_ble_eq_true rfl⟩ ⟨Nat.le_of_ble_eq_true rfl, Nat.le_of_ble_eq_true rfl⟩ (As := [.ref (EB e)]) (c_emit (T := T) (S := S) (p := [1]) (Q := fun o G2 => o = .inl none ∧ FP (fun j => 19 ≤ j ∧ j ≤ 123) G1 G2 ∧ RC (emt T S e [1]) G2) he hT R1 r1 hsent (fun G2 h1 h2 => ⟨rfl, h1, h2⟩)) (fun o G2 h => ?_) (fun E G' h => by cases h.1)
  obtain ⟨h0, F2, R2⟩ := h
  cases h0
  have x1 := (R2.2 e he).1
  refine V_aload_n rfl (by first | rfl | assumption) ?_
  refine V_iconst (v := nI 0) rfl (by decide) ?_
  refine V_putf rfl rfl rfl rfl (by repeat (first | exact hup_eq | assumption | refine Eq.trans (hup_ne (by first | assumption | exact Ne.symm (by assumption) | decide | omega)) ?_)) (Nat.le_of_ble_eq_true rfl) (by first | exact ⟨rfl, rfl⟩ | (constructor <;> decide)) ?_
  refine V_vret rfl rfl (hq _ (((F1.sub (P' := fun j => (19 ≤ j ∧ j ≤ 123) ∨ j = 134 ∨ j = 135) (fun x hx => by omega)).trans F2 (fun x hx => by omega)).hup (by omega)) ?_)
  exact R2.dead he rfl
theorem c_answerUnknown {e q : Nat} {S : SG} {T : TB} (he : e < 2) (hT : tbl K T) (h : RC S G) (hsent : nm (S.1 e) 0 < 2 ^ 31) (hqq : q < 2 ^ 31) (hq : ∀ G', FP (fun j => (19 ≤ j ∧ j ≤ 123) ∨ j = 134 ∨ j = 135) G G' → RC (emt T S e (3 :: be4 q)) G' → Q (.inl none) G') : C K 0 0 mX11_answerUnknown [.ref 0, .ref (EB e), .int (nI q)] G Q := by
  obtain ⟨tp, sp, g0⟩ := h.sw
  obtain ⟨m, b, g1, g2⟩ := h.1.2.2.2.2.2.2.2.2.1
  have hEe : EB e = 32 + 46 * e := rfl
  refine C_of okX11_answerUnknown (Nat.le_of_ble_eq_true rfl) ?_
  refine V_aload_n rfl (by first | rfl | assumption) ?_
  refine V_getf rfl rfl rfl (by repeat (first | exact hup_eq | assumption | refine Eq.trans (hup_ne (by first | assumption | exact Ne.symm (by assumption) | decide | omega)) ?_)) (by first | rfl | assumption) ?_
  refine V_callV (M' := mX6_clear) (mc := 0) (ms := 0) (bc' := 0) (bs' := 0) rfl cw_X11_139 iv_X6_clear (by repeat (first | exact hup_eq | assumption | refine Eq.trans (hup_ne (by first | assumption | exact Ne.symm (by assumption) | decide | omega)) ?_)) rfl rfl (Nat.le_of_ble_eq_true rfl) ⟨Nat.le_of_ble_eq_true rfl, Nat.le_of_ble_eq_true rfl⟩ ⟨Nat.le_of_ble_eq_true rfl, Nat.le_of_ble_eq_true rfl⟩ (As := []) (c_clearU (Q := fun o G1 => o = .inl none ∧ FP (fun j => j = 134) G G1 ∧ Rw G1 134 135 200 []) g1 g2 (fun G1 h1 h2 => ⟨rfl, h1, h2⟩)) (fun o G1 h => ?_) (fun E G' h => by cases h.1)
  obtain ⟨h0, F1, r1⟩ := h
  cases h0
  have q0 := F1.get (by omega) g0
  have hr1 := r1.1
  refine V_aload_n rfl (by first | rfl | assumption) ?_
  refine V_getf rfl rfl rfl (by repeat (first | exact hup_eq | assumption | refine Eq.trans (hup_ne (by first | assumption | exact Ne.symm (by assumption) | decide | omega)) ?_)) (by first | rfl | assumption) ?_
  refine V_iconst (v := nI 3) rfl (by decide) ?_
  refine V_callV (M' := mX6_put) (mc := 0) (ms := 0) (bc' := 0) (bs' := 0) rfl cw_X11_84 iv_X6_put (by repeat (first | exact hup_eq | assumption | refine Eq.trans (hup_ne (by first | assumption | exact Ne.symm (by assumption) | decide | omega)) ?_)) rfl rfl (Nat.le_of_ble_eq_true rfl) ⟨Nat.le_of_ble_eq_true rfl, Nat.le_of_ble_eq_true rfl⟩ ⟨Nat.le_of_ble_eq_true rfl, Nat.le_of_ble_eq_true rfl⟩ (As := [.int (nI 3)]) (c_putL (x := 3) (Q := fun o G3 => o = .inl none ∧ FP (fun j => j = 134 ∨ j = 135) G1 G3 ∧ Rw G3 134 135 200 [3]) r1 (by decide) (by decide) (by decide) (fun G1 h1 h2 => ⟨rfl, h1, h2⟩)) (fun o G2 h => ?_) (fun E G' h => by cases h.1)
  obtain ⟨h0, F2, r2⟩ := h
  cases h0
  have q0 := F2.get (by omega) q0
  have hr2 := r2.1
  refine V_aload_n rfl (by first | rfl | assumption) ?_
  refine V_getf rfl rfl rfl (by repeat (first | exact hup_eq | assumption | refine Eq.trans (hup_ne (by first | assumption | exact Ne.symm (by assumption) | decide | omega)) ?_)) (by first | rfl | assumption) ?_
  refine V_iload_n rfl (by first | rfl | assumption) ?_
  refine V_callV (M' := mX6_putBig) (mc := 0) (ms := 0) (bc' := 0) (bs' := 0) rfl cw_X11_308 iv_X6_putBig (by repeat (first | exact hup_eq | assumption | refine Eq.trans (hup_ne (by first | assumption | exact Ne.symm (by assumption) | decide | omega)) ?_)) rfl rfl (Nat.le_of_ble_eq_true rfl) ⟨Nat.le_of_ble_eq_true rfl, Nat.le_of_ble_eq_true rfl⟩ ⟨Nat.le_of_ble_eq_true rfl, Nat.le_of_ble_eq_true rfl⟩ (As := [.int (nI q)]) (c_putBigL (m := q) (Q := fun o G3 => o = .inl none ∧ FP (fun j => j = 134 ∨ j = 135) G2 G3 ∧ Rw G3 134 135 200 (3 :: be4 q)) hqq r2 (by decide) (by decide) (fun G1 h1 h2 => ⟨rfl, h1, h2⟩)) (fun o G3 h => ?_) (fun E G' h => by cases h.1)
  obtain ⟨h0, F3, r3⟩ := h
  cases h0
  have F3' : FP (fun j => j = 134 ∨ j = 135) G G3 := ((F1.sub (fun x hx => Or.inl hx)).trans F2 (fun x hx => hx)).trans F3 (fun x hx => hx)
  have R3 := h.out F3' r3
  have q0 := F3.get (by omega) q0
  refine V_aload_n rfl (by first | rfl | assumption) ?_
  refine V_aload_n rfl (by first | rfl | assumption) ?_
  refine V_callV (M' := mX11_emit) (mc := 0) (ms := 0) (bc' := 0) (bs' := 0) rfl cw_X11_184 iv_X11_emit (by repeat (first | exact hup_eq | assumption | refine Eq.trans (hup_ne (by first | assumption | exact Ne.symm (by assumption) | decide | omega)) ?_)) rfl rfl (Nat.le_of_ble_eq_true rfl) ⟨Nat.le_of_ble_eq_true rfl, Nat.le_of_ble_eq_true rfl⟩ ⟨Nat.le_of_ble_eq_true rfl, Nat.le_of_ble_eq_true rfl⟩ (As := [.ref (EB e)]) (c_emit (T := T) (S := S) (p := 3 :: be4 q) (Q := fun o G2 => o = .inl none ∧ FP (fun j => 19 ≤ j ∧ j ≤ 123) G3 G2 ∧ RC (emt T S e (3 :: be4 q)) G2) he hT R3 r3 hsent (fun G2 h1 h2 => ⟨rfl, h1, h2⟩)) (fun o G4 h => ?_) (fun E G' h => by cases h.1)
  obtain ⟨h0, F4, R4⟩ := h
  cases h0
  exact V_vret rfl rfl (hq _ ((F3'.sub (P' := fun j => (19 ≤ j ∧ j ≤ 123) ∨ j = 134 ∨ j = 135) (fun x hx => by omega)).trans F4 (fun x hx => by omega)) R4)
set_option maxHeartbeats 16000000 in
theorem c_writeInit {e : Nat} {S : SG} (he : e < 2) (h : RC S G) (hq : ∀ G', FP (fun j => (32 ≤ j ∧ j ≤ 123) ∨ j = 134 ∨ j = 135) G G' → RC (wIn S e) G' → Rw G' 134 135 200 (lst (oinit (S.1 e)) 9) → Q (.inl none) G') : C K 0 0 mX11_writeInit [.ref 0, .ref (EB e)] G Q := by
  obtain ⟨tp, sp, g0⟩ := h.sw
  obtain ⟨m, b, g1, g2⟩ := h.1.2.2.2.2.2.2.2.2.1
  have hEe : EB e = 32 + 46 * e := rfl
  have he1 := h.2 e he
  obtain ⟨x1, x2, ⟨ck9, c1, c2, c3⟩, x4, x5, x6, x7, k1, ⟨oi, o1, o2, o3⟩, k3, k4, k5, k6, k7, k8⟩ := id he1
  refine C_of okX11_writeInit (Nat.le_of_ble_eq_true rfl) ?_
  refine V_aload_n rfl (by first | rfl | assumption) ?_
  refine V_getf rfl rfl rfl (by repeat (first | exact hup_eq | assumption | refine Eq.trans (hup_ne (by first | assumption | exact Ne.symm (by assumption) | decide | omega)) ?_)) (by first | rfl | assumption) ?_
  refine V_astore_n rfl (by decide) ?_
  refine V_aload_n rfl (by first | rfl | assumption) ?_
  refine V_getf rfl rfl rfl (by repeat (first | exact hup_eq | assumption | refine Eq.trans (hup_ne (by first | assumption | exact Ne.symm (by assumption) | decide | omega)) ?_)) (by first | rfl | assumption) ?_
  refine V_iconst (v := nI 0) rfl (by decide) ?_
  refine V_bipush (v := nI 20) rfl (by decide) ?_
  refine V_iastN rfl (by repeat (first | exact hup_eq | assumption | refine Eq.trans (hup_ne (by first | assumption | exact Ne.symm (by assumption) | decide | omega)) ?_)) rfl (by first | omega | decide) (by first | omega | decide) ?_
  refine V_aload_n rfl (by first | rfl | assumption) ?_
  refine V_getf rfl rfl rfl (by repeat (first | exact hup_eq | assumption | refine Eq.trans (hup_ne (by first | assumption | exact Ne.symm (by assumption) | decide | omega)) ?_)) (by first | rfl | assumption) ?_
  refine V_iconst (v := nI 0) rfl (by decide) ?_
  refine V_aload_n rfl (by first | rfl | assumption) ?_
  refine V_getf rfl rfl rfl (by repeat (first | exact hup_eq | assumption | refine Eq.trans (hup_ne (by first | assumption | exact Ne.symm (by assumption) | decide | omega)) ?_)) (by first | rfl | assumption) ?_
  refine V_iconst (v := nI 1) rfl (by decide) ?_
  refine V_bipush (v := nI 8) rfl (by decide) ?_
  refine V_copyi (st := []) rfl ⟨kk_X11_108, k_ac⟩ (f := fun j => nI (ck9 j)) (n0 := 8) ((hup_ne (by omega)).trans c1) hup_eq (by decide) (by decide) (by decide) (by decide) (by decide) (by decide) (by decide) ?_
  rw [show (nI 0).toNatClampNeg = 0 by decide, show (nI 1).toNatClampNeg = 1 by decide, show (nI 8).toNatClampNeg = 8 by decide, cpyN, hup_hup]
  obtain ⟨o9, ho9⟩ : ∃ o9, o9 = va_cpy ck9 (updN oi 0 20) 0 1 8 := ⟨_, rfl⟩
  rw [← ho9]
  have hov : ∀ j, j < 9 → o9 j = oinit (S.1 e) j := fun j hj => by
    rw [ho9]
    unfold oinit
    by_cases e0 : j = 0
    · rw [e0, pk_cpy_out (by omega), updN_eq, if_pos rfl]
    · rw [pk_cpy_in (by omega) (by omega), if_neg e0, Nat.zero_add, c2 _ (by omega)]
  have hol : ∀ j, j < 9 → oinit (S.1 e) j < 256 := fun j hj => by
    unfold oinit
    split
    · decide
    · exact c3 _ (by omega)
  clear ho9
  refine V_aload_n rfl (by first | rfl | assumption) ?_
  refine V_iconst (v := nI 1) rfl (by decide) ?_
  refine V_putf rfl rfl rfl rfl (by repeat (first | exact hup_eq | assumption | refine Eq.trans (hup_ne (by first | assumption | exact Ne.symm (by assumption) | decide | omega)) ?_)) (Nat.le_of_ble_eq_true rfl) (by first | exact ⟨rfl, rfl⟩ | (constructor <;> decide)) ?_
  obtain ⟨G1, hG1⟩ : ∃ G1, G1 = hup (hup G (EB e + 39) (BA 9 o9)) (EB e + 38) (XO (EB e) true (fl (S.1 e) 3) (fl (S.1 e) 4) (fl (S.1 e) 8) (fl (S.1 e) 5)) := ⟨_, rfl⟩
  show V K 0 0 _ _ _ _ (hup (hup G (EB e + 39) (BA 9 o9)) (EB e + 38) (XO (EB e) true (fl (S.1 e) 3) (fl (S.1 e) 4) (fl (S.1 e) 8) (fl (S.1 e) 5))) Q
  rw [← hG1]
  have F1 : FP (fun j => j = EB e + 38 ∨ j = EB e + 39) G G1 := by rw [hG1]; exact (FP.rf.hup (Or.inr rfl)).hup (Or.inl rfl)
  have i38 : G1.1 (EB e + 38) = some (XO (EB e) true (fl (S.1 e) 3) (fl (S.1 e) 4) (fl (S.1 e) 8) (fl (S.1 e) 5)) := by rw [hG1]; exact hup_eq
  have i39 : G1.1 (EB e + 39) = some (BA 9 o9) := by rw [hG1, hup_ne (by omega)]; exact hup_eq
  clear hG1
  have R1 : RC (wIn S e) G1 := by
    refine ⟨h.1.sl (h.1.2.2.1.fp (fun j a c => F1.2 j (by omega))) ⟨m, b, F1.get (by omega) g1, F1.get (by omega) g2⟩ (fun j hj => F1.2 j (by omega)), fun k hk => ?_⟩
    by_cases ek : k = e
    · subst ek
      show RE (EB k) (up S.1 k _ k) _
      rw [up_eq]
      have D : ∀ j, EB k ≤ j → j ≤ EB k + 45 → j ≠ EB k + 38 → j ≠ EB k + 39 → G1.1 j = G.1 j := fun j a b c d => F1.2 j (by omega)
      exact ⟨(D _ (by omega) (by omega) (by omega) (by omega)).trans x1, x2.fp (D _ (by omega) (by omega) (by omega) (by omega)), Rb.fp ⟨ck9, c1, c2, c3⟩ (D _ (by omega) (by omega) (by omega) (by omega)), x4.fp (D _ (by omega) (by omega) (by omega) (by omega)), x5.fp (D _ (by omega) (by omega) (by omega) (by omega)) (D _ (by omega) (by omega) (by omega) (by omega)), x6.fp (fun j a c => D j (by omega) (by omega) (by omega) (by omega)), (x7.fp (fun j a c => D j (by omega) (by omega) (by omega) (by omega))).sta (fun k a c => up_ne (by omega)) (fun k a c => up_ne (by omega)), i38, ⟨o9, i39, hov, hol⟩, k3.fp (D _ (by omega) (by omega) (by omega) (by omega)), k4.fp (D _ (by omega) (by omega) (by omega) (by omega)), (by obtain ⟨f, q1, q2⟩ := k5; exact ⟨f, q1.fp (D _ (by omega) (by omega) (by omega) (by omega)), q2⟩), (by obtain ⟨mk, q1, q2⟩ := k6; exact ⟨mk, (D _ (by omega) (by omega) (by omega) (by omega)).trans q1, q2⟩), k7.fp (D _ (by omega) (by omega) (by omega) (by omega)), k8.fp (D _ (by omega) (by omega) (by omega) (by omega))⟩
    · show RE (EB k) (up S.1 e _ k) _
      rw [up_ne ek]
      exact (h.2 k hk).fp (fun j a c => F1.2 j (by unfold EB at a c ⊢; omega))
  have q0 := F1.get (by omega) g0
  have q1 := F1.get (by omega) g1
  have q2 := F1.get (by omega) g2
  refine V_aload_n rfl (by first | rfl | assumption) ?_
  refine V_getf rfl rfl rfl (by repeat (first | exact hup_eq | assumption | refine Eq.trans (hup_ne (by first | assumption | exact Ne.symm (by assumption) | decide | omega)) ?_)) (by first | rfl | assumption) ?_
  refine V_callV (M' := mX6_clear) (mc := 0) (ms := 0) (bc' := 0) (bs' := 0) rfl cw_X11_139 iv_X6_clear (by repeat (first | exact hup_eq | assumption | refine Eq.trans (hup_ne (by first | assumption | exact Ne.symm (by assumption) | decide | omega)) ?_)) rfl rfl (Nat.le_of_ble_eq_true rfl) ⟨Nat.le_of_ble_eq_true rfl, Nat.le_of_ble_eq_true rfl⟩ ⟨Nat.le_of_ble_eq_true rfl, Nat.le_of_ble_eq_true rfl⟩ (As := []) (c_clearU (Q := fun o G2 => o = .inl none ∧ FP (fun j => j = 134) G1 G2 ∧ Rw G2 134 135 200 []) q1 q2 (fun G1 h1 h2 => ⟨rfl, h1, h2⟩)) (fun o G2 h => ?_) (fun E G' h => by cases h.1)
  obtain ⟨h0, F2, r2⟩ := h
  cases h0
  have q0 := F2.get (by omega) q0
  have hr2 := r2.1
  have i38' := F2.get (by omega) i38
  have i39' := F2.get (by omega) i39
  refine V_aload_n rfl (by first | rfl | assumption) ?_
  refine V_getf rfl rfl rfl (by repeat (first | exact hup_eq | assumption | refine Eq.trans (hup_ne (by first | assumption | exact Ne.symm (by assumption) | decide | omega)) ?_)) (by first | rfl | assumption) ?_
  refine V_aload_n rfl (by first | rfl | assumption) ?_
  refine V_getf rfl rfl rfl (by repeat (first | exact hup_eq | assumption | refine Eq.trans (hup_ne (by first | assumption | exact Ne.symm (by assumption) | decide | omega)) ?_)) (by first | rfl | assumption) ?_
  refine V_iconst (v := nI 0) rfl (by decide) ?_
  refine V_bipush (v := nI 9) rfl (by decide) ?_
  refine V_callV (M' := mX6_putAll) (mc := 0) (ms := 0) (bc' := 0) (bs' := 0) rfl cw_X11_143 iv_X6_putAll (by repeat (first | exact hup_eq | assumption | refine Eq.trans (hup_ne (by first | assumption | exact Ne.symm (by assumption) | decide | omega)) ?_)) rfl rfl (Nat.le_of_ble_eq_true rfl) ⟨Nat.le_of_ble_eq_true rfl, Nat.le_of_ble_eq_true rfl⟩ ⟨Nat.le_of_ble_eq_true rfl, Nat.le_of_ble_eq_true rfl⟩ (As := [.ref (EB e + 39), .int (nI 0), .int (nI 9)]) (c_putAllL (g := o9) (Q := fun o G3 => o = .inl none ∧ FP (fun j => j = 134 ∨ j = 135) G2 G3 ∧ Rw G3 134 135 200 (lst (oinit (S.1 e)) 9)) r2 i39' (by decide) (by decide) (by decide) (by decide) (fun j hj => by rw [Nat.zero_add, hov j hj]; exact hol j hj) (fun G1 h1 h2 => ⟨rfl, h1, by rw [List.nil_append, lst_congr (g := oinit (S.1 e)) (fun j hj => by rw [Nat.zero_add, hov j hj])] at h2; exact h2⟩)) (fun o G3 h => ?_) (fun E G' h => by cases h.1)
  obtain ⟨h0, F3, r3⟩ := h
  cases h0
  have F3' : FP (fun j => j = 134 ∨ j = 135) G1 G3 := (F2.sub (fun x hx => Or.inl hx)).trans F3 (fun x hx => hx)
  exact V_vret rfl rfl (hq G3 ((F1.sub (P' := fun j => (32 ≤ j ∧ j ≤ 123) ∨ j = 134 ∨ j = 135) (fun x hx => by omega)).trans F3' (fun x hx => by omega)) (R1.out F3' r3) r3)
end CClass2
