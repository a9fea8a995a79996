section CTimes2
variable {K : kK} {G : kG} {Q : kO → kG → Prop}
set_option maxHeartbeats 40000000 in
set_option maxRecDepth 20000 in
theorem c_times {k0 k1 res Nr s a0 N : Nat} {k b o : Nat → Nat} (hcr : crv G) (hk : G.1 k0 = some (BA k1 k)) (hk1 : 32 ≤ k1 ∧ k1 < 2 ^ 20) (hk0 : 13 < k0) (hkb : ∀ j, j < 32 → k j < 256) (ha : G.1 a0 = some (BA N b)) (hs : s + 32 ≤ N) (hN : N < 2 ^ 20) (hb : ∀ j, j < 32 → b (s + j) < 256) (ha0 : 13 < a0) (hr : G.1 res = some (BA Nr o)) (hr0 : 13 < res) (hNr : 32 ≤ Nr ∧ Nr < 2 ^ 20)
    (hq : ∀ G', FR [2, 3, 4, 5, 6, 7, 8, 9, 10, 11, 12, 13, res] G G' → crv G' → G'.1 res = some (BA Nr (fun j => if j < 32 then MULT k (fun j => b (s + j)) / 256 ^ j % 256 else o j)) → Q (.inl none) G') : C K 0 0 mX0_times [.ref 1, .ref k0, .ref a0, .int (nI s), .ref res] G Q := by
  obtain ⟨g1, ⟨f2, g2⟩, hrows, ⟨w13, g13⟩⟩ := id hcr
  obtain ⟨y3, g3⟩ := hrows 3 (by decide)
  obtain ⟨y4, g4⟩ := hrows 4 (by decide)
  obtain ⟨y5, g5⟩ := hrows 5 (by decide)
  obtain ⟨y6, g6⟩ := hrows 6 (by decide)
  obtain ⟨y7, g7⟩ := hrows 7 (by decide)
  obtain ⟨y8, g8⟩ := hrows 8 (by decide)
  obtain ⟨y9, g9⟩ := hrows 9 (by decide)
  obtain ⟨y10, g10⟩ := hrows 10 (by decide)
  obtain ⟨y11, g11⟩ := hrows 11 (by decide)
  obtain ⟨y12, g12⟩ := hrows 12 (by decide)
  refine C_of okX0_times (Nat.le_of_ble_eq_true rfl) ?_
  refine V_aload_n rfl (by first | rfl | assumption) ?_
  refine V_iconst (v := 0) rfl (by decide) ?_
  refine V_aload_n rfl (by first | rfl | assumption) ?_
  refine V_getf rfl rfl rfl (by repeat (first | exact hup_eq | assumption | refine Eq.trans (hup_ne (by first | assumption | exact Ne.symm (by assumption) | decide)) ?_)) (by first | rfl | assumption) ?_
  refine V_iconst (v := 0) rfl (by decide) ?_
  refine V_bipush (v := 32) rfl (by decide) ?_
  refine V_copyi (st := []) rfl ⟨kk_X0_49, k_ac⟩ hk g2 (by decide) (by decide) (by decide) (by show 0 + 32 ≤ k1; omega) (by decide) (by decide) (by decide) ?_
  rw [show (0 : Int32).toNatClampNeg = 0 by decide, show (32 : Int32).toNatClampNeg = 32 by decide, cpyB]
  refine V_aload_n rfl (by first | rfl | assumption) ?_
  refine V_getf rfl rfl rfl (by repeat (first | exact hup_eq | assumption | refine Eq.trans (hup_ne (by first | assumption | exact Ne.symm (by assumption) | decide)) ?_)) (by first | rfl | assumption) ?_
  refine V_iconst (v := 0) rfl (by decide) ?_
  refine V_dup2 rfl rfl rfl ?_
  refine V_ialdN (j := 0) rfl hup_eq rfl (by decide) (by decide) ?_
  refine V_sipush (v := 248) rfl (by decide) ?_
  refine V_iand rfl ?_
  rw [land248]
  refine V_iastN (j := 0) rfl hup_eq rfl (by decide) (by decide) ?_
  rw [hup_hup]
  refine V_aload_n rfl (by first | rfl | assumption) ?_
  refine V_getf rfl rfl rfl (by repeat (first | exact hup_eq | assumption | refine Eq.trans (hup_ne (by first | assumption | exact Ne.symm (by assumption) | decide)) ?_)) (by first | rfl | assumption) ?_
  refine V_bipush (v := 31) rfl (by decide) ?_
  refine V_aload_n rfl (by first | rfl | assumption) ?_
  refine V_getf rfl rfl rfl (by repeat (first | exact hup_eq | assumption | refine Eq.trans (hup_ne (by first | assumption | exact Ne.symm (by assumption) | decide)) ?_)) (by first | rfl | assumption) ?_
  refine V_bipush (v := 31) rfl (by decide) ?_
  refine V_ialdN (j := 31) rfl hup_eq rfl (by decide) (by decide) ?_
  refine V_bipush (v := 127) rfl (by decide) ?_
  refine V_iand rfl ?_
  rw [land127]
  refine V_bipush (v := 64) rfl (by decide) ?_
  refine V_ior rfl ?_
  rw [lor64]
  refine V_iastN (j := 31) rfl hup_eq rfl (by decide) (by decide) ?_
  rw [hup_hup]
  obtain ⟨fac, hfac⟩ : ∃ fac : Nat → Nat, fac = updN (updN (fun j => if j < 32 then k j else f2 j) 0 ((if (0 : Nat) < 32 then k 0 else f2 0) &&& 248)) 31 ((updN (fun j => if j < 32 then k j else f2 j) 0 ((if (0 : Nat) < 32 then k 0 else f2 0) &&& 248) 31 &&& 127) ||| 64) := ⟨_, rfl⟩
  have hfc : ∀ j, j < 32 → fac j = facf k j := by rw [hfac]; exact fac_ok
  rw [← hfac]
  have hfl : ∀ j, j < 32 → fac j < 256 := fun j hj => by rw [hfc j hj]; exact facf_lt hkb j hj
  clear hfac
  refine V_aload_n rfl (by first | rfl | assumption) ?_
  refine V_iload_n rfl (by first | rfl | assumption) ?_
  refine V_bipush (v := 32) rfl (by decide) ?_
  refine V_aload_n rfl (by first | rfl | assumption) ?_
  refine V_getf rfl rfl rfl (by repeat (first | exact hup_eq | assumption | refine Eq.trans (hup_ne (by first | assumption | exact Ne.symm (by assumption) | decide)) ?_)) (by first | rfl | assumption) ?_
  refine V_callS (M' := mX5_read) (mc := 0) (ms := 0) (bc' := 0) (bs' := 0) rfl cw_X0_55 is_X5_read rfl (Nat.le_of_ble_eq_true rfl) ⟨Nat.le_of_ble_eq_true rfl, Nat.le_of_ble_eq_true rfl⟩ ⟨Nat.le_of_ble_eq_true rfl, Nat.le_of_ble_eq_true rfl⟩ (As := [.ref a0, .int (nI s), .int (nI 32), .ref 3]) (c_readV (b := b) (Q := fun o G' => o = .inl none ∧ ∃ U, vs (2 ^ 26) U 10 = vs 256 (fun j => b (s + j)) 32 ∧ (∀ j, j < 9 → U j < 2 ^ 26) ∧ U 9 < 2 ^ 22 ∧ G' = hup _ 3 (LA 10 U)) (by first | exact ha | exact (hup_ne (by omega)).trans ha) (by exact g3) hs hN (by decide) (by decide) hb (by decide) (by decide) (fun U u1 u2 u3 => ⟨rfl, U, u1, u2, u3, rfl⟩)) (fun o G' h => ?_) (fun E G' h => by cases h.1)
  obtain ⟨h, U, hU1, hU2, hU3, rfl⟩ := h
  cases h
  refine V_aload_n rfl (by first | rfl | assumption) ?_
  refine V_getf rfl rfl rfl (by repeat (first | exact hup_eq | assumption | refine Eq.trans (hup_ne (by first | assumption | exact Ne.symm (by assumption) | decide)) ?_)) (by first | rfl | assumption) ?_
  refine V_bipush (v := 9) rfl (by decide) ?_
  refine V_dup2 rfl rfl rfl ?_
  refine V_laldN (j := 9) rfl hup_eq rfl (by decide) (by decide) ?_
  refine V_ldc2 (v := lN 2097151) rfl kc_X0_61 ?_
  refine V_landN 21 rfl (by decide) (by decide) (by have : U 9 < 2 ^ 22 := hU3; omega) ?_
  refine V_lastN (j := 9) rfl hup_eq rfl (by decide) (by decide) ?_
  rw [hup_hup]
  have hu2 := u_mask hU1 hU2
  obtain ⟨U2, hU2e⟩ : ∃ U2, U2 = updN U 9 (U 9 % 2 ^ 21) := ⟨_, rfl⟩
  rw [← hU2e] at hu2
  rw [← hU2e]
  refine V_aload_n rfl (by first | rfl | assumption) ?_
  refine V_getf rfl rfl rfl (by repeat (first | exact hup_eq | assumption | refine Eq.trans (hup_ne (by first | assumption | exact Ne.symm (by assumption) | decide)) ?_)) (by first | rfl | assumption) ?_
  refine V_lconst (v := lN 1) rfl (by decide) ?_
  refine V_callS (M' := mX0_setSmall) (mc := 0) (ms := 0) (bc' := 0) (bs' := 0) rfl cw_X0_63 is_X0_setSmall rfl (Nat.le_of_ble_eq_true rfl) ⟨Nat.le_of_ble_eq_true rfl, Nat.le_of_ble_eq_true rfl⟩ ⟨Nat.le_of_ble_eq_true rfl, Nat.le_of_ble_eq_true rfl⟩ (As := [.ref 4, .long (lN 1)]) (c_setSmall (v := 1) (Q := fun o G' => o = .inl none ∧ ∃ z', (∀ j, j < 10 → z' j = if j = 0 then 1 else 0) ∧ G' = hup _ 4 (LA 10 z')) (by exact g4) (fun z' h => ⟨rfl, z', h, rfl⟩)) (fun o G' h => ?_) (fun E G' h => by cases h.1)
  obtain ⟨h, X2, hX2, rfl⟩ := h
  cases h
  refine V_aload_n rfl (by first | rfl | assumption) ?_
  refine V_getf rfl rfl rfl (by repeat (first | exact hup_eq | assumption | refine Eq.trans (hup_ne (by first | assumption | exact Ne.symm (by assumption) | decide)) ?_)) (by first | rfl | assumption) ?_
  refine V_lconst (v := lN 0) rfl (by decide) ?_
  refine V_callS (M' := mX0_setSmall) (mc := 0) (ms := 0) (bc' := 0) (bs' := 0) rfl cw_X0_63 is_X0_setSmall rfl (Nat.le_of_ble_eq_true rfl) ⟨Nat.le_of_ble_eq_true rfl, Nat.le_of_ble_eq_true rfl⟩ ⟨Nat.le_of_ble_eq_true rfl, Nat.le_of_ble_eq_true rfl⟩ (As := [.ref 5, .long (lN 0)]) (c_setSmall (v := 0) (Q := fun o G' => o = .inl none ∧ ∃ z', (∀ j, j < 10 → z' j = if j = 0 then 0 else 0) ∧ G' = hup _ 5 (LA 10 z')) (by exact g5) (fun z' h => ⟨rfl, z', h, rfl⟩)) (fun o G' h => ?_) (fun E G' h => by cases h.1)
  obtain ⟨h, Z2, hZ2, rfl⟩ := h
  cases h
  refine V_aload_n rfl (by first | rfl | assumption) ?_
  refine V_getf rfl rfl rfl (by repeat (first | exact hup_eq | assumption | refine Eq.trans (hup_ne (by first | assumption | exact Ne.symm (by assumption) | decide)) ?_)) (by first | rfl | assumption) ?_
  refine V_iconst (v := 0) rfl (by decide) ?_
  refine V_aload_n rfl (by first | rfl | assumption) ?_
  refine V_getf rfl rfl rfl (by repeat (first | exact hup_eq | assumption | refine Eq.trans (hup_ne (by first | assumption | exact Ne.symm (by assumption) | decide)) ?_)) (by first | rfl | assumption) ?_
  refine V_iconst (v := 0) rfl (by decide) ?_
  refine V_bipush (v := 10) rfl (by decide) ?_
  refine V_copyl (st := []) (f := fun j => lN (U2 j)) (g := fun j => lN (y6 j)) rfl ⟨kk_X0_49, k_ac⟩ (by rfl) (by exact g6) (by decide) (by decide) (by decide) (by decide) (by decide) (by decide) (by decide) ?_
  rw [show (0 : Int32).toNatClampNeg = 0 by decide, show (10 : Int32).toNatClampNeg = 10 by decide, cpyL]
  refine V_aload_n rfl (by first | rfl | assumption) ?_
  refine V_getf rfl rfl rfl (by repeat (first | exact hup_eq | assumption | refine Eq.trans (hup_ne (by first | assumption | exact Ne.symm (by assumption) | decide)) ?_)) (by first | rfl | assumption) ?_
  refine V_lconst (v := lN 1) rfl (by decide) ?_
  refine V_callS (M' := mX0_setSmall) (mc := 0) (ms := 0) (bc' := 0) (bs' := 0) rfl cw_X0_63 is_X0_setSmall rfl (Nat.le_of_ble_eq_true rfl) ⟨Nat.le_of_ble_eq_true rfl, Nat.le_of_ble_eq_true rfl⟩ ⟨Nat.le_of_ble_eq_true rfl, Nat.le_of_ble_eq_true rfl⟩ (As := [.ref 7, .long (lN 1)]) (c_setSmall (v := 1) (Q := fun o G' => o = .inl none ∧ ∃ z', (∀ j, j < 10 → z' j = if j = 0 then 1 else 0) ∧ G' = hup _ 7 (LA 10 z')) (by exact g7) (fun z' h => ⟨rfl, z', h, rfl⟩)) (fun o G' h => ?_) (fun E G' h => by cases h.1)
  obtain ⟨h, Z3, hZ3, rfl⟩ := h
  cases h
  obtain ⟨UU, hUU⟩ : ∃ UU, UU = uval (fun j => b (s + j)) % PP := ⟨_, rfl⟩
  have sX2 := small_ok X2 1 (by decide) hX2
  have sZ2 := small_ok Z2 0 (by decide) hZ2
  have sZ3 := small_ok Z3 1 (by decide) hZ3
  have sX3 : fA (fun j => if j < 10 then U2 j else y6 j) ∧ v10 (fun j => if j < 10 then U2 j else y6 j) % PP = UU := ⟨(cpy10_ok hu2.1).1, by rw [(cpy10_ok hu2.1).2, hUU, hu2.2]⟩
  refine V_sipush (v := 254) rfl (by decide) ?_
  refine V_istore rfl (by decide) ?_
  exact V_times112 (u := fun j => b (s + j)) g1 hfc hfl hu2 hUU hr hr0 hNr ⟨rfl, rfl, rfl, ⟨rfl, fun j hj => by
    simp only [List.mem_cons, List.not_mem_nil, or_false, not_or] at hj
    obtain ⟨j2, j3, j4, j5, j6, j7, j8, j9, j10, j11, j12, j13⟩ := hj
    rw [hup_ne j7, hup_ne j6, hup_ne j5, hup_ne j4, hup_ne j3, hup_ne j2]⟩, rfl, rfl, ⟨_, rfl, sX2⟩, ⟨_, rfl, sZ2⟩, ⟨_, rfl, sX3⟩, ⟨_, rfl, sZ3⟩, ⟨_, g8⟩, ⟨_, g9⟩, ⟨_, g10⟩, ⟨_, g11⟩, ⟨_, g12⟩, ⟨_, g13⟩⟩ hq
set_option maxHeartbeats 40000000 in
set_option maxRecDepth 20000 in
theorem c_timesS {k0 k1 res Nr s q0 N : Nat} {k b o : Nat → Nat} (hcr : crv G) (hk : G.1 k0 = some (BA k1 k)) (hk1 : 32 ≤ k1 ∧ k1 < 2 ^ 20) (hk0 : 13 < k0) (hkb : ∀ j, j < 32 → k j < 256) (ha : kSX K q0 = some (N, fun j => nI (b j))) (hs : s + 32 ≤ N) (hN : N < 2 ^ 20) (hb : ∀ j, j < 32 → b (s + j) < 256) (hr : G.1 res = some (BA Nr o)) (hr0 : 13 < res) (hNr : 32 ≤ Nr ∧ Nr < 2 ^ 20)
    (hq : ∀ G', FR [2, 3, 4, 5, 6, 7, 8, 9, 10, 11, 12, 13, res] G G' → crv G' → G'.1 res = some (BA Nr (fun j => if j < 32 then MULT k (fun j => b (s + j)) / 256 ^ j % 256 else o j)) → Q (.inl none) G') : C K 0 0 mX0_times [.ref 1, .ref k0, .ref (1000000 + q0), .int (nI s), .ref res] G Q := by
  obtain ⟨g1, ⟨f2, g2⟩, hrows, ⟨w13, g13⟩⟩ := id hcr
  obtain ⟨y3, g3⟩ := hrows 3 (by decide)
  obtain ⟨y4, g4⟩ := hrows 4 (by decide)
  obtain ⟨y5, g5⟩ := hrows 5 (by decide)
  obtain ⟨y6, g6⟩ := hrows 6 (by decide)
  obtain ⟨y7, g7⟩ := hrows 7 (by decide)
  obtain ⟨y8, g8⟩ := hrows 8 (by decide)
  obtain ⟨y9, g9⟩ := hrows 9 (by decide)
  obtain ⟨y10, g10⟩ := hrows 10 (by decide)
  obtain ⟨y11, g11⟩ := hrows 11 (by decide)
  obtain ⟨y12, g12⟩ := hrows 12 (by decide)
  refine C_of okX0_times (Nat.le_of_ble_eq_true rfl) ?_
  refine V_aload_n rfl (by first | rfl | assumption) ?_
  refine V_iconst (v := 0) rfl (by decide) ?_
  refine V_aload_n rfl (by first | rfl | assumption) ?_
  refine V_getf rfl rfl rfl (by repeat (first | exact hup_eq | assumption | refine Eq.trans (hup_ne (by first | assumption | exact Ne.symm (by assumption) | decide)) ?_)) (by first | rfl | assumption) ?_
  refine V_iconst (v := 0) rfl (by decide) ?_
  refine V_bipush (v := 32) rfl (by decide) ?_
  refine V_copyi (st := []) rfl ⟨kk_X0_49, k_ac⟩ hk g2 (by decide) (by decide) (by decide) (by show 0 + 32 ≤ k1; omega) (by decide) (by decide) (by decide) ?_
  rw [show (0 : Int32).toNatClampNeg = 0 by decide, show (32 : Int32).toNatClampNeg = 32 by decide, cpyB]
  refine V_aload_n rfl (by first | rfl | assumption) ?_
  refine V_getf rfl rfl rfl (by repeat (first | exact hup_eq | assumption | refine Eq.trans (hup_ne (by first | assumption | exact Ne.symm (by assumption) | decide)) ?_)) (by first | rfl | assumption) ?_
  refine V_iconst (v := 0) rfl (by decide) ?_
  refine V_dup2 rfl rfl rfl ?_
  refine V_ialdN (j := 0) rfl hup_eq rfl (by decide) (by decide) ?_
  refine V_sipush (v := 248) rfl (by decide) ?_
  refine V_iand rfl ?_
  rw [land248]
  refine V_iastN (j := 0) rfl hup_eq rfl (by decide) (by decide) ?_
  rw [hup_hup]
  refine V_aload_n rfl (by first | rfl | assumption) ?_
  refine V_getf rfl rfl rfl (by repeat (first | exact hup_eq | assumption | refine Eq.trans (hup_ne (by first | assumption | exact Ne.symm (by assumption) | decide)) ?_)) (by first | rfl | assumption) ?_
  refine V_bipush (v := 31) rfl (by decide) ?_
  refine V_aload_n rfl (by first | rfl | assumption) ?_
  refine V_getf rfl rfl rfl (by repeat (first | exact hup_eq | assumption | refine Eq.trans (hup_ne (by first | assumption | exact Ne.symm (by assumption) | decide)) ?_)) (by first | rfl | assumption) ?_
  refine V_bipush (v := 31) rfl (by decide) ?_
  refine V_ialdN (j := 31) rfl hup_eq rfl (by decide) (by decide) ?_
  refine V_bipush (v := 127) rfl (by decide) ?_
  refine V_iand rfl ?_
  rw [land127]
  refine V_bipush (v := 64) rfl (by decide) ?_
  refine V_ior rfl ?_
  rw [lor64]
  refine V_iastN (j := 31) rfl hup_eq rfl (by decide) (by decide) ?_
  rw [hup_hup]
  obtain ⟨fac, hfac⟩ : ∃ fac : Nat → Nat, fac = updN (updN (fun j => if j < 32 then k j else f2 j) 0 ((if (0 : Nat) < 32 then k 0 else f2 0) &&& 248)) 31 ((updN (fun j => if j < 32 then k j else f2 j) 0 ((if (0 : Nat) < 32 then k 0 else f2 0) &&& 248) 31 &&& 127) ||| 64) := ⟨_, rfl⟩
  have hfc : ∀ j, j < 32 → fac j = facf k j := by rw [hfac]; exact fac_ok
  rw [← hfac]
  have hfl : ∀ j, j < 32 → fac j < 256 := fun j hj => by rw [hfc j hj]; exact facf_lt hkb j hj
  clear hfac
  refine V_aload_n rfl (by first | rfl | assumption) ?_
  refine V_iload_n rfl (by first | rfl | assumption) ?_
  refine V_bipush (v := 32) rfl (by decide) ?_
  refine V_aload_n rfl (by first | rfl | assumption) ?_
  refine V_getf rfl rfl rfl (by repeat (first | exact hup_eq | assumption | refine Eq.trans (hup_ne (by first | assumption | exact Ne.symm (by assumption) | decide)) ?_)) (by first | rfl | assumption) ?_
  refine V_callS (M' := mX5_read) (mc := 0) (ms := 0) (bc' := 0) (bs' := 0) rfl cw_X0_55 is_X5_read rfl (Nat.le_of_ble_eq_true rfl) ⟨Nat.le_of_ble_eq_true rfl, Nat.le_of_ble_eq_true rfl⟩ ⟨Nat.le_of_ble_eq_true rfl, Nat.le_of_ble_eq_true rfl⟩ (As := [.ref (1000000 + q0), .int (nI s), .int (nI 32), .ref 3]) (c_readSV (b := b) (Q := fun o G' => o = .inl none ∧ ∃ U, vs (2 ^ 26) U 10 = vs 256 (fun j => b (s + j)) 32 ∧ (∀ j, j < 9 → U j < 2 ^ 26) ∧ U 9 < 2 ^ 22 ∧ G' = hup _ 3 (LA 10 U)) ha (by exact g3) hs hN (by decide) (by decide) hb (by decide) (by decide) (fun U u1 u2 u3 => ⟨rfl, U, u1, u2, u3, rfl⟩)) (fun o G' h => ?_) (fun E G' h => by cases h.1)
  obtain ⟨h, U, hU1, hU2, hU3, rfl⟩ := h
  cases h
  refine V_aload_n rfl (by first | rfl | assumption) ?_
  refine V_getf rfl rfl rfl (by repeat (first | exact hup_eq | assumption | refine Eq.trans (hup_ne (by first | assumption | exact Ne.symm (by assumption) | decide)) ?_)) (by first | rfl | assumption) ?_
  refine V_bipush (v := 9) rfl (by decide) ?_
  refine V_dup2 rfl rfl rfl ?_
  refine V_laldN (j := 9) rfl hup_eq rfl (by decide) (by decide) ?_
  refine V_ldc2 (v := lN 2097151) rfl kc_X0_61 ?_
  refine V_landN 21 rfl (by decide) (by decide) (by have : U 9 < 2 ^ 22 := hU3; omega) ?_
  refine V_lastN (j := 9) rfl hup_eq rfl (by decide) (by decide) ?_
  rw [hup_hup]
  have hu2 := u_mask hU1 hU2
  obtain ⟨U2, hU2e⟩ : ∃ U2, U2 = updN U 9 (U 9 % 2 ^ 21) := ⟨_, rfl⟩
  rw [← hU2e] at hu2
  rw [← hU2e]
  refine V_aload_n rfl (by first | rfl | assumption) ?_
  refine V_getf rfl rfl rfl (by repeat (first | exact hup_eq | assumption | refine Eq.trans (hup_ne (by first | assumption | exact Ne.symm (by assumption) | decide)) ?_)) (by first | rfl | assumption) ?_
  refine V_lconst (v := lN 1) rfl (by decide) ?_
  refine V_callS (M' := mX0_setSmall) (mc := 0) (ms := 0) (bc' := 0) (bs' := 0) rfl cw_X0_63 is_X0_setSmall rfl (Nat.le_of_ble_eq_true rfl) ⟨Nat.le_of_ble_eq_true rfl, Nat.le_of_ble_eq_true rfl⟩ ⟨Nat.le_of_ble_eq_true rfl, Nat.le_of_ble_eq_true rfl⟩ (As := [.ref 4, .long (lN 1)]) (c_setSmall (v := 1) (Q := fun o G' => o = .inl none ∧ ∃ z', (∀ j, j < 10 → z' j = if j = 0 then 1 else 0) ∧ G' = hup _ 4 (LA 10 z')) (by exact g4) (fun z' h => ⟨rfl, z', h, rfl⟩)) (fun o G' h => ?_) (fun E G' h => by cases h.1)
  obtain ⟨h, X2, hX2, rfl⟩ := h
  cases h
  refine V_aload_n rfl (by first | rfl | assumption) ?_
  refine V_getf rfl rfl rfl (by repeat (first | exact hup_eq | assumption | refine Eq.trans (hup_ne (by first | assumption | exact Ne.symm (by assumption) | decide)) ?_)) (by first | rfl | assumption) ?_
  refine V_lconst (v := lN 0) rfl (by decide) ?_
  refine V_callS (M' := mX0_setSmall) (mc := 0) (ms := 0) (bc' := 0) (bs' := 0) rfl cw_X0_63 is_X0_setSmall rfl (Nat.le_of_ble_eq_true rfl) ⟨Nat.le_of_ble_eq_true rfl, Nat.le_of_ble_eq_true rfl⟩ ⟨Nat.le_of_ble_eq_true rfl, Nat.le_of_ble_eq_true rfl⟩ (As := [.ref 5, .long (lN 0)]) (c_setSmall (v := 0) (Q := fun o G' => o = .inl none ∧ ∃ z', (∀ j, j < 10 → z' j = if j = 0 then 0 else 0) ∧ G' = hup _ 5 (LA 10 z')) (by exact g5) (fun z' h => ⟨rfl, z', h, rfl⟩)) (fun o G' h => ?_) (fun E G' h => by cases h.1)
  obtain ⟨h, Z2, hZ2, rfl⟩ := h
  cases h
  refine V_aload_n rfl (by first | rfl | assumption) ?_
  refine V_getf rfl rfl rfl (by repeat (first | exact hup_eq | assumption | refine Eq.trans (hup_ne (by first | assumption | exact Ne.symm (by assumption) | decide)) ?_)) (by first | rfl | assumption) ?_
  refine V_iconst (v := 0) rfl (by decide) ?_
  refine V_aload_n rfl (by first | rfl | assumption) ?_
  refine V_getf rfl rfl rfl (by repeat (first | exact hup_eq | assumption | refine Eq.trans (hup_ne (by first | assumption | exact Ne.symm (by assumption) | decide)) ?_)) (by first | rfl | assumption) ?_
  refine V_iconst (v := 0) rfl (by decide) ?_
  refine V_bipush (v := 10) rfl (by decide) ?_
  refine V_copyl (st := []) (f := fun j => lN (U2 j)) (g := fun j => lN (y6 j)) rfl ⟨kk_X0_49, k_ac⟩ (by rfl) (by exact g6) (by decide) (by decide) (by decide) (by decide) (by decide) (by decide) (by decide) ?_
  rw [show (0 : Int32).toNatClampNeg = 0 by decide, show (10 : Int32).toNatClampNeg = 10 by decide, cpyL]
  refine V_aload_n rfl (by first | rfl | assumption) ?_
  refine V_getf rfl rfl rfl (by repeat (first | exact hup_eq | assumption | refine Eq.trans (hup_ne (by first | assumption | exact Ne.symm (by assumption) | decide)) ?_)) (by first | rfl | assumption) ?_
  refine V_lconst (v := lN 1) rfl (by decide) ?_
  refine V_callS (M' := mX0_setSmall) (mc := 0) (ms := 0) (bc' := 0) (bs' := 0) rfl cw_X0_63 is_X0_setSmall rfl (Nat.le_of_ble_eq_true rfl) ⟨Nat.le_of_ble_eq_true rfl, Nat.le_of_ble_eq_true rfl⟩ ⟨Nat.le_of_ble_eq_true rfl, Nat.le_of_ble_eq_true rfl⟩ (As := [.ref 7, .long (lN 1)]) (c_setSmall (v := 1) (Q := fun o G' => o = .inl none ∧ ∃ z', (∀ j, j < 10 → z' j = if j = 0 then 1 else 0) ∧ G' = hup _ 7 (LA 10 z')) (by exact g7) (fun z' h => ⟨rfl, z', h, rfl⟩)) (fun o G' h => ?_) (fun E G' h => by cases h.1)
  obtain ⟨h, Z3, hZ3, rfl⟩ := h
  cases h
  obtain ⟨UU, hUU⟩ : ∃ UU, UU = uval (fun j => b (s + j)) % PP := ⟨_, rfl⟩
  have sX2 := small_ok X2 1 (by decide) hX2
  have sZ2 := small_ok Z2 0 (by decide) hZ2
  have sZ3 := small_ok Z3 1 (by decide) hZ3
  have sX3 : fA (fun j => if j < 10 then U2 j else y6 j) ∧ v10 (fun j => if j < 10 then U2 j else y6 j) % PP = UU := ⟨(cpy10_ok hu2.1).1, by rw [(cpy10_ok hu2.1).2, hUU, hu2.2]⟩
  refine V_sipush (v := 254) rfl (by decide) ?_
  refine V_istore rfl (by decide) ?_
  exact V_times112 (u := fun j => b (s + j)) g1 hfc hfl hu2 hUU hr hr0 hNr ⟨rfl, rfl, rfl, ⟨rfl, fun j hj => by
    simp only [List.mem_cons, List.not_mem_nil, or_false, not_or] at hj
    obtain ⟨j2, j3, j4, j5, j6, j7, j8, j9, j10, j11, j12, j13⟩ := hj
    rw [hup_ne j7, hup_ne j6, hup_ne j5, hup_ne j4, hup_ne j3, hup_ne j2]⟩, rfl, rfl, ⟨_, rfl, sX2⟩, ⟨_, rfl, sZ2⟩, ⟨_, rfl, sX3⟩, ⟨_, rfl, sZ3⟩, ⟨_, g8⟩, ⟨_, g9⟩, ⟨_, g10⟩, ⟨_, g11⟩, ⟨_, g12⟩, ⟨_, g13⟩⟩ hq
end CTimes2
