section CClass13
variable {K : kK} {G : kG} {Q : kO → kG → Prop}
theorem V_if_ltL {bc bs : Nat} {M : kM} {pc n t : Nat} {lc : kLo} {st : List Value} {x y : Int64} {o : Int} (h : kf M pc = some (.ifCond .lt o, n, t)) (k : x.toInt < y.toInt → V K bc bs M t lc st G Q) (k2 : ¬ x.toInt < y.toInt → V K bc bs M n lc st G Q) : V K bc bs M pc lc (.int (lg_cmp x y) :: st) G Q := by
  by_cases z : x < y
  · have z' := Int64.lt_iff_toInt_lt.mp z
    have a : ¬ y < x := fun q => by have := Int64.lt_iff_toInt_lt.mp q; omega
    have b : ¬ x = y := fun q => by rw [q] at z'; omega
    unfold lg_cmp
    rw [if_neg a, if_neg b]
    exact V_if_lt h (fun _ => k z') (fun q => absurd (by decide) q)
  · have : ¬ lg_cmp x y < 0 := by
      unfold lg_cmp
      by_cases a : y < x
      · rw [if_pos a]; decide
      · have b : x = y := Int64.toInt_inj.mp (by
          have z1 : ¬ x.toInt < y.toInt := fun q => z (Int64.lt_iff_toInt_lt.mpr q)
          have z2 : ¬ y.toInt < x.toInt := fun q => a (Int64.lt_iff_toInt_lt.mpr q)
          omega)
        rw [if_neg a, if_pos b]; decide
    exact V_if_lt h (fun q => absurd q this) (fun _ => k2 (fun q => z (Int64.lt_iff_toInt_lt.mpr q)))
set_option maxHeartbeats 4000000 in
theorem c_stream {S : SG} {T : TB} {w : Int64} {c : Int32} (hT : tbl K T) (h : RC S G) (hq : ∀ G', Kp G G' → RC (aSr T S w.toInt c.toInt).2.2 G' → Q (oV [EIA] (aSr T S w.toInt c.toInt).1) G') : C K 1 6 mX11_stream [.ref 0, .long w, .int c] G Q := by
  obtain ⟨tp0, sp0, g0⟩ := h.sw
  refine C_of okX11_stream (Nat.le_of_ble_eq_true rfl) ?_
  refine V_aload_n rfl (by first | rfl | assumption) ?_
  refine V_callV (M' := mX11_takeTape) (mc := 0) (ms := 0) (bc' := 1) (bs' := 6) rfl cw_X11_87 iv_X11_takeTape (by repeat (first | exact hup_eq | assumption | refine Eq.trans (hup_ne (by first | assumption | exact Ne.symm (by assumption) | decide | omega)) ?_)) rfl rfl (Nat.le_of_ble_eq_true rfl) ⟨Nat.le_of_ble_eq_true rfl, Nat.le_of_ble_eq_true rfl⟩ ⟨Nat.le_of_ble_eq_true rfl, Nat.le_of_ble_eq_true rfl⟩ (As := []) (c_takeTape (S := S) (Q := fun o G1 => ∃ tk tp : Nat, o = .inl (some (.ref tk)) ∧ (tk = 136 ∧ tp = 138 ∨ tk = 138 ∧ tp = 136) ∧ FP (fun j => j = 0 ∨ j = 136 ∨ j = 138) G G1 ∧ RC (tkn S) G1 ∧ Rw G1 tk (tk + 1) 600 (tpe S) ∧ G1.1 0 = some (SWO tp tk)) h (fun G1 tk tp h1 h2 h3 h4 h5 => ⟨tk, tp, rfl, h1, h2, h3, h4, h5⟩)) (fun o G1 h => ?_) (fun E G' h => by obtain ⟨_, _, h, _⟩ := h; cases h)
  obtain ⟨tk, tp, h0, htk, F1, R1, rt, q0⟩ := h
  cases h0
  have kp1 : Kp G G1 := F1.kp (fun x hx => by omega)
  obtain ⟨g1, g2, b, g3, g4, g5⟩ := id rt
  refine V_astore rfl (by decide) ?_
  have bad : (tpe S).length ≠ 32 ∨ w.toInt < 0 ∨ c.toInt < 0 → V K 1 6 mX11_stream 26 (ls1 (kla [.ref 0, .long w, .int c]) 4 (.ref tk)) [] G1 Q := by
    intro z
    have U : aSr T S w.toInt c.toInt = (1, 0, tkn S) := by unfold aSr; rw [if_pos z]
    rw [U] at hq
    exact V_throw (E := EIA) rfl rfl rfl rfl (by decide +kernel) kl_X11_102 kk_X11_104 (Nat.le_of_ble_eq_true rfl) (Nat.le_of_ble_eq_true rfl) ⟨by decide, by decide⟩ (hq _ kp1.nn R1.nn)
  refine V_aload rfl (by first | rfl | assumption) ?_
  refine V_getf rfl rfl rfl (by repeat (first | exact hup_eq | assumption | refine Eq.trans (hup_ne (by first | assumption | exact Ne.symm (by assumption) | decide | omega)) ?_)) (by first | rfl | assumption) ?_
  refine V_bipush (v := nI 32) rfl (by decide) ?_
  refine V_icmp_neN rfl (by omega) (by decide) (fun z => bad (Or.inl z)) (fun z0 => ?_)
  refine V_lload_n rfl (by rfl) (by rfl) ?_
  refine V_lconst (v := 0) rfl (by decide) ?_
  refine V_lcmp rfl ?_
  refine V_if_ltL rfl (fun z => bad (Or.inr (Or.inl z))) (fun z1 => ?_)
  refine V_iload_n rfl (by rfl) ?_
  refine V_if_geZ rfl rfl (fun z2 => ?_) (fun z2 => bad (Or.inr (Or.inr (by omega))))
  clear bad
  have z1 : ¬ w.toInt < 0 := z1
  have U : aSr T S w.toInt c.toInt = (0, 0, sO (tkn S) (lst (STRM T.2.2 (gD (tpe S)) w.toInt.toNat c.toInt.toNat) 64)) := by unfold aSr; rw [if_neg (by omega)]
  rw [U] at hq
  obtain ⟨hc1, hc2⟩ := i32_n z2
  obtain ⟨hw1, hw2⟩ := i64_n (x := w) (by omega)
  obtain ⟨m, hm⟩ : ∃ m, m = c.toInt.toNat := ⟨_, rfl⟩
  obtain ⟨n, hn⟩ : ∃ n, n = w.toInt.toNat := ⟨_, rfl⟩
  rw [← hm] at hq hc1 hc2
  rw [← hn] at hq hw1 hw2
  clear U z1 z2 hm hn
  subst hc1 hw1
  have hsl := R1.1.2.2.1
  have g19 := hsl.1
  have g20 := hsl.2.1.1
  obtain ⟨o1, o2, ob, o3, o4, o5⟩ := id R1.1.2.2.2.2.2.2.1
  refine V_aload_n rfl (by first | rfl | assumption) ?_
  refine V_getf rfl rfl rfl (by repeat (first | exact hup_eq | assumption | refine Eq.trans (hup_ne (by first | assumption | exact Ne.symm (by assumption) | decide | omega)) ?_)) (by first | rfl | assumption) ?_
  refine V_getf rfl rfl rfl (by repeat (first | exact hup_eq | assumption | refine Eq.trans (hup_ne (by first | assumption | exact Ne.symm (by assumption) | decide | omega)) ?_)) (by first | rfl | assumption) ?_
  refine V_aload rfl (by first | rfl | assumption) ?_
  refine V_getf rfl rfl rfl (by repeat (first | exact hup_eq | assumption | refine Eq.trans (hup_ne (by first | assumption | exact Ne.symm (by assumption) | decide | omega)) ?_)) (by first | rfl | assumption) ?_
  refine V_lload_n rfl (by first | rfl | assumption) (by first | rfl | assumption) ?_
  refine V_iload_n rfl (by first | rfl | assumption) ?_
  refine V_callV (M' := mX8_make) (mc := 0) (ms := 0) (bc' := 1) (bs' := 6) rfl cw_X11_133 iv_X8_make (by repeat (first | exact hup_eq | assumption | refine Eq.trans (hup_ne (by first | assumption | exact Ne.symm (by assumption) | decide | omega)) ?_)) rfl rfl (Nat.le_of_ble_eq_true rfl) ⟨Nat.le_of_ble_eq_true rfl, Nat.le_of_ble_eq_true rfl⟩ ⟨Nat.le_of_ble_eq_true rfl, Nat.le_of_ble_eq_true rfl⟩ (As := [.ref (tk + 1), .long (lN n), .int (nI m)]) (c_smake (qt := T.2.2) (Q := fun o G2 => ∃ sb, o = .inl none ∧ FP (fun j => 21 ≤ j ∧ j ≤ 23) G1 G2 ∧ smr G2 ∧ G2.1 21 = some (BA 64 sb) ∧ (∀ j, j < 64 → sb j = STRM T.2.2 b n m j)) hT.2.2.2.1 hT.2.2.2.2 hsl.2.1 g3 (by decide) (by omega) (fun j hj => g5 j (by omega)) hw2 (fun G2 sb h1 h2 h3 h4 => ⟨sb, rfl, h1.P (by intro x hx; simp at hx; omega), h2, h3, h4⟩)) (fun o G2 h => ?_) (fun E G' h => by obtain ⟨_, h, _⟩ := h; cases h)
  obtain ⟨sb, h0, F2, sm2, v2, v3⟩ := h
  cases h0
  have q0 := F2.get (by omega) q0
  have o1 := F2.get (by omega) o1
  have o3 := F2.get (by omega) o3
  have g19 := F2.get (by omega) g19
  refine V_aload_n rfl (by first | rfl | assumption) ?_
  refine V_getf rfl rfl rfl (by repeat (first | exact hup_eq | assumption | refine Eq.trans (hup_ne (by first | assumption | exact Ne.symm (by assumption) | decide | omega)) ?_)) (by first | rfl | assumption) ?_
  refine V_callV (M' := mX6_clear) (mc := 0) (ms := 0) (bc' := 1) (bs' := 6) rfl cw_X11_139 iv_X6_clear (by repeat (first | exact hup_eq | assumption | refine Eq.trans (hup_ne (by first | assumption | exact Ne.symm (by assumption) | decide | omega)) ?_)) rfl rfl (Nat.le_of_ble_eq_true rfl) ⟨Nat.le_of_ble_eq_true rfl, Nat.le_of_ble_eq_true rfl⟩ ⟨Nat.le_of_ble_eq_true rfl, Nat.le_of_ble_eq_true rfl⟩ (As := []) (c_clearU (Q := fun o G3 => o = .inl none ∧ FP (fun j => j = 130) G2 G3 ∧ Rw G3 130 131 64 []) o1 o3 (fun G2 h1 h2 => ⟨rfl, h1, h2⟩)) (fun o G3 h => ?_) (fun E G' h => by cases h.1)
  obtain ⟨h0, F3, r3⟩ := h
  cases h0
  have q0 := F3.get (by omega) q0
  have g19 := F3.get (by omega) g19
  have g20 := F3.get (by omega) (F2.get (by omega) g20)
  have v2 := F3.get (by omega) v2
  have r31 := r3.1
  refine V_aload_n rfl (by first | rfl | assumption) ?_
  refine V_getf rfl rfl rfl (by repeat (first | exact hup_eq | assumption | refine Eq.trans (hup_ne (by first | assumption | exact Ne.symm (by assumption) | decide | omega)) ?_)) (by first | rfl | assumption) ?_
  refine V_aload_n rfl (by first | rfl | assumption) ?_
  refine V_getf rfl rfl rfl (by repeat (first | exact hup_eq | assumption | refine Eq.trans (hup_ne (by first | assumption | exact Ne.symm (by assumption) | decide | omega)) ?_)) (by first | rfl | assumption) ?_
  refine V_getf rfl rfl rfl (by repeat (first | exact hup_eq | assumption | refine Eq.trans (hup_ne (by first | assumption | exact Ne.symm (by assumption) | decide | omega)) ?_)) (by first | rfl | assumption) ?_
  refine V_getf rfl rfl rfl (by repeat (first | exact hup_eq | assumption | refine Eq.trans (hup_ne (by first | assumption | exact Ne.symm (by assumption) | decide | omega)) ?_)) (by first | rfl | assumption) ?_
  refine V_iconst (v := nI 0) rfl (by decide) ?_
  refine V_bipush (v := nI 64) rfl (by decide) ?_
  refine V_callV (M' := mX6_putAll) (mc := 0) (ms := 0) (bc' := 1) (bs' := 6) rfl cw_X11_143 iv_X6_putAll (by repeat (first | exact hup_eq | assumption | refine Eq.trans (hup_ne (by first | assumption | exact Ne.symm (by assumption) | decide | omega)) ?_)) rfl rfl (Nat.le_of_ble_eq_true rfl) ⟨Nat.le_of_ble_eq_true rfl, Nat.le_of_ble_eq_true rfl⟩ ⟨Nat.le_of_ble_eq_true rfl, Nat.le_of_ble_eq_true rfl⟩ (As := [.ref 21, .int (nI 0), .int (nI 64)]) (c_putAllL (g := sb) (Q := fun o G4 => o = .inl none ∧ FP (fun j => j = 130 ∨ j = 131) G3 G4 ∧ Rw G4 130 131 64 ([] ++ lst (fun j => sb (0 + j)) 64)) r3 v2 (by decide) (by decide) (by decide) (by decide) (fun j hj => by rw [Nat.zero_add, v3 j hj]; exact STRM_lt _ _ _ _ _) (fun G2 h1 h2 => ⟨rfl, h1, h2⟩)) (fun o G4 h => ?_) (fun E G' h => by cases h.1)
  obtain ⟨h0, F4, r4⟩ := h
  cases h0
  have FA : FP (fun j => (21 ≤ j ∧ j ≤ 23) ∨ j = 130 ∨ j = 131) G1 G4 := ((F2.sub (fun x hx => by omega)).trans F3 (fun x hx => by omega)).trans F4 (fun x hx => by omega)
  have el : [] ++ lst (fun j => sb (0 + j)) 64 = lst (STRM T.2.2 (gD (tpe S)) n m) 64 := by
    rw [List.nil_append]
    refine lst_congr (fun j hj => ?_)
    rw [Nat.zero_add, v3 j hj]
    exact STRM_congr (fun j hj => (gD_of g4 (by omega)).symm)
  rw [el] at r4
  refine V_vret rfl rfl (hq _ (fun j hj => (FA.2 j (by omega)).trans (kp1 j hj)) ?_)
  have sl4 : slr G4 := by
    obtain ⟨a1, a2, a3, m9, b9, a4, a5⟩ := hsl
    exact ⟨FA.get (by omega) a1, sm2.fp (fun j a c => (F4.2 j (by omega)).trans (F3.2 j (by omega))), a3.fp (fun j a c => FA.2 j (by omega)), m9, b9, FA.get (by omega) a4, FA.get (by omega) a5⟩
  exact R1.lo (R1.1.1.fp (fun j a c => FA.2 j (by omega))) (R1.1.2.1.fp (fun j a c => FA.2 j (by omega))) sl4 r4 (fun j hj => FA.2 j (by omega))
set_option maxHeartbeats 4000000 in
theorem c_tag {S : SG} (h : RC S G) (hq : ∀ G', Kp G G' → RC (aTg S).2.2 G' → Q (oV [EIA] (aTg S).1) G') : C K 1 6 mX11_tag [.ref 0] G Q := by
  obtain ⟨tp0, sp0, g0⟩ := h.sw
  refine C_of okX11_tag (Nat.le_of_ble_eq_true rfl) ?_
  refine V_aload_n rfl (by first | rfl | assumption) ?_
  refine V_callV (M' := mX11_takeTape) (mc := 0) (ms := 0) (bc' := 1) (bs' := 6) rfl cw_X11_87 iv_X11_takeTape (by repeat (first | exact hup_eq | assumption | refine Eq.trans (hup_ne (by first | assumption | exact Ne.symm (by assumption) | decide | omega)) ?_)) rfl rfl (Nat.le_of_ble_eq_true rfl) ⟨Nat.le_of_ble_eq_true rfl, Nat.le_of_ble_eq_true rfl⟩ ⟨Nat.le_of_ble_eq_true rfl, Nat.le_of_ble_eq_true rfl⟩ (As := []) (c_takeTape (S := S) (Q := fun o G1 => ∃ tk tp : Nat, o = .inl (some (.ref tk)) ∧ (tk = 136 ∧ tp = 138 ∨ tk = 138 ∧ tp = 136) ∧ FP (fun j => j = 0 ∨ j = 136 ∨ j = 138) G G1 ∧ RC (tkn S) G1 ∧ Rw G1 tk (tk + 1) 600 (tpe S) ∧ G1.1 0 = some (SWO tp tk)) h (fun G1 tk tp h1 h2 h3 h4 h5 => ⟨tk, tp, rfl, h1, h2, h3, h4, h5⟩)) (fun o G1 h => ?_) (fun E G' h => by obtain ⟨_, _, h, _⟩ := h; cases h)
  obtain ⟨tk, tp, h0, htk, F1, R1, rt, q0⟩ := h
  cases h0
  have kp1 : Kp G G1 := F1.kp (fun x hx => by omega)
  obtain ⟨g1, g2, b, g3, g4, g5⟩ := id rt
  refine V_astore_n rfl (by decide) ?_
  refine V_aload_n rfl (by first | rfl | assumption) ?_
  refine V_getf rfl rfl rfl (by repeat (first | exact hup_eq | assumption | refine Eq.trans (hup_ne (by first | assumption | exact Ne.symm (by assumption) | decide | omega)) ?_)) (by first | rfl | assumption) ?_
  refine V_bipush (v := nI 32) rfl (by decide) ?_
  refine V_icmp_geN rfl (by omega) (by decide) (fun z => ?_) (fun z => ?_)
  rotate_left
  · have U : aTg S = (1, 0, tkn S) := by unfold aTg; rw [if_pos (by omega)]
    rw [U] at hq
    exact V_throw (E := EIA) rfl rfl rfl rfl (by decide +kernel) kl_X11_102 kk_X11_104 (Nat.le_of_ble_eq_true rfl) (Nat.le_of_ble_eq_true rfl) ⟨by decide, by decide⟩ (hq _ kp1.nn R1.nn)
  have U : aTg S = (0, 0, sO (tkn S) (lst (TAG (sft (gD (tpe S)) 32) ((tpe S).length - 32) (gD (tpe S))) 16)) := by unfold aTg; rw [if_neg (by omega)]
  rw [U] at hq
  have hsl := R1.1.2.2.1
  have g19 := hsl.1
  have g24 := hsl.2.2.1.1
  obtain ⟨o1, o2, ob, o3, o4, o5⟩ := id R1.1.2.2.2.2.2.2.1
  refine V_aload_n rfl (by first | rfl | assumption) ?_
  refine V_getf rfl rfl rfl (by repeat (first | exact hup_eq | assumption | refine Eq.trans (hup_ne (by first | assumption | exact Ne.symm (by assumption) | decide | omega)) ?_)) (by first | rfl | assumption) ?_
  refine V_getf rfl rfl rfl (by repeat (first | exact hup_eq | assumption | refine Eq.trans (hup_ne (by first | assumption | exact Ne.symm (by assumption) | decide | omega)) ?_)) (by first | rfl | assumption) ?_
  refine V_aload_n rfl (by first | rfl | assumption) ?_
  refine V_getf rfl rfl rfl (by repeat (first | exact hup_eq | assumption | refine Eq.trans (hup_ne (by first | assumption | exact Ne.symm (by assumption) | decide | omega)) ?_)) (by first | rfl | assumption) ?_
  refine V_bipush (v := nI 32) rfl (by decide) ?_
  refine V_aload_n rfl (by first | rfl | assumption) ?_
  refine V_getf rfl rfl rfl (by repeat (first | exact hup_eq | assumption | refine Eq.trans (hup_ne (by first | assumption | exact Ne.symm (by assumption) | decide | omega)) ?_)) (by first | rfl | assumption) ?_
  refine V_aload_n rfl (by first | rfl | assumption) ?_
  refine V_getf rfl rfl rfl (by repeat (first | exact hup_eq | assumption | refine Eq.trans (hup_ne (by first | assumption | exact Ne.symm (by assumption) | decide | omega)) ?_)) (by first | rfl | assumption) ?_
  obtain ⟨n, hn⟩ : ∃ n, n = (tpe S).length - 32 := ⟨_, rfl⟩
  have hn2 : (tpe S).length = 32 + n := by omega
  rw [← hn] at hq
  rw [show nI (tpe S).length = nI (32 + n) by rw [hn2]]
  refine V_callV (M' := mX9_make) (mc := 0) (ms := 0) (bc' := 1) (bs' := 6) rfl cw_X11_150 iv_X9_make (by repeat (first | exact hup_eq | assumption | refine Eq.trans (hup_ne (by first | assumption | exact Ne.symm (by assumption) | decide | omega)) ?_)) rfl rfl (Nat.le_of_ble_eq_true rfl) ⟨Nat.le_of_ble_eq_true rfl, Nat.le_of_ble_eq_true rfl⟩ ⟨Nat.le_of_ble_eq_true rfl, Nat.le_of_ble_eq_true rfl⟩ (As := [.ref (tk + 1), .int (nI 32), .int (nI (32 + n)), .ref (tk + 1)]) (c_tmake (Q := fun o G2 => ∃ sb, o = .inl none ∧ FP (fun j => 25 ≤ j ∧ j ≤ 29) G1 G2 ∧ tgr G2 ∧ G2.1 25 = some (BA 16 sb) ∧ (∀ j, j < 16 → sb j = TAG (fun j => b (32 + j)) n b j)) hsl.2.2.1 g3 (by omega) (by omega) (by decide) (fun j hj => g5 _ (by omega)) g3 (by omega) (by decide) (fun j hj => g5 j (by omega)) (fun G2 sb h1 h2 h3 h4 => ⟨sb, rfl, h1.P (by intro x hx; simp at hx; omega), h2, h3, h4⟩)) (fun o G2 h => ?_) (fun E G' h => by obtain ⟨_, h, _⟩ := h; cases h)
  obtain ⟨sb, h0, F2, sm2, v2, v3⟩ := h
  cases h0
  have q0 := F2.get (by omega) q0
  have o1 := F2.get (by omega) o1
  have o3 := F2.get (by omega) o3
  have g19 := F2.get (by omega) g19
  refine V_aload_n rfl (by first | rfl | assumption) ?_
  refine V_getf rfl rfl rfl (by repeat (first | exact hup_eq | assumption | refine Eq.trans (hup_ne (by first | assumption | exact Ne.symm (by assumption) | decide | omega)) ?_)) (by first | rfl | assumption) ?_
  refine V_callV (M' := mX6_clear) (mc := 0) (ms := 0) (bc' := 1) (bs' := 6) rfl cw_X11_139 iv_X6_clear (by repeat (first | exact hup_eq | assumption | refine Eq.trans (hup_ne (by first | assumption | exact Ne.symm (by assumption) | decide | omega)) ?_)) rfl rfl (Nat.le_of_ble_eq_true rfl) ⟨Nat.le_of_ble_eq_true rfl, Nat.le_of_ble_eq_true rfl⟩ ⟨Nat.le_of_ble_eq_true rfl, Nat.le_of_ble_eq_true rfl⟩ (As := []) (c_clearU (Q := fun o G3 => o = .inl none ∧ FP (fun j => j = 130) G2 G3 ∧ Rw G3 130 131 64 []) o1 o3 (fun G2 h1 h2 => ⟨rfl, h1, h2⟩)) (fun o G3 h => ?_) (fun E G' h => by cases h.1)
  obtain ⟨h0, F3, r3⟩ := h
  cases h0
  have q0 := F3.get (by omega) q0
  have g19 := F3.get (by omega) g19
  have g24 := F3.get (by omega) (F2.get (by omega) g24)
  have v2 := F3.get (by omega) v2
  have r31 := r3.1
  refine V_aload_n rfl (by first | rfl | assumption) ?_
  refine V_getf rfl rfl rfl (by repeat (first | exact hup_eq | assumption | refine Eq.trans (hup_ne (by first | assumption | exact Ne.symm (by assumption) | decide | omega)) ?_)) (by first | rfl | assumption) ?_
  refine V_aload_n rfl (by first | rfl | assumption) ?_
  refine V_getf rfl rfl rfl (by repeat (first | exact hup_eq | assumption | refine Eq.trans (hup_ne (by first | assumption | exact Ne.symm (by assumption) | decide | omega)) ?_)) (by first | rfl | assumption) ?_
  refine V_getf rfl rfl rfl (by repeat (first | exact hup_eq | assumption | refine Eq.trans (hup_ne (by first | assumption | exact Ne.symm (by assumption) | decide | omega)) ?_)) (by first | rfl | assumption) ?_
  refine V_getf rfl rfl rfl (by repeat (first | exact hup_eq | assumption | refine Eq.trans (hup_ne (by first | assumption | exact Ne.symm (by assumption) | decide | omega)) ?_)) (by first | rfl | assumption) ?_
  refine V_iconst (v := nI 0) rfl (by decide) ?_
  refine V_bipush (v := nI 16) rfl (by decide) ?_
  refine V_callV (M' := mX6_putAll) (mc := 0) (ms := 0) (bc' := 1) (bs' := 6) rfl cw_X11_143 iv_X6_putAll (by repeat (first | exact hup_eq | assumption | refine Eq.trans (hup_ne (by first | assumption | exact Ne.symm (by assumption) | decide | omega)) ?_)) rfl rfl (Nat.le_of_ble_eq_true rfl) ⟨Nat.le_of_ble_eq_true rfl, Nat.le_of_ble_eq_true rfl⟩ ⟨Nat.le_of_ble_eq_true rfl, Nat.le_of_ble_eq_true rfl⟩ (As := [.ref 25, .int (nI 0), .int (nI 16)]) (c_putAllL (g := sb) (Q := fun o G4 => o = .inl none ∧ FP (fun j => j = 130 ∨ j = 131) G3 G4 ∧ Rw G4 130 131 64 ([] ++ lst (fun j => sb (0 + j)) 16)) r3 v2 (by decide) (by decide) (by decide) (by decide) (fun j hj => by rw [Nat.zero_add, v3 j hj]; exact TAG_lt _ _ _ _) (fun G2 h1 h2 => ⟨rfl, h1, h2⟩)) (fun o G4 h => ?_) (fun E G' h => by cases h.1)
  obtain ⟨h0, F4, r4⟩ := h
  cases h0
  have FA : FP (fun j => (25 ≤ j ∧ j ≤ 29) ∨ j = 130 ∨ j = 131) G1 G4 := ((F2.sub (fun x hx => by omega)).trans F3 (fun x hx => by omega)).trans F4 (fun x hx => by omega)
  have el : [] ++ lst (fun j => sb (0 + j)) 16 = lst (TAG (sft (gD (tpe S)) 32) n (gD (tpe S))) 16 := by
    rw [List.nil_append]
    refine lst_congr (fun j hj => ?_)
    rw [Nat.zero_add, v3 j hj]
    exact TAG_congr (fun j hj => (gD_of g4 (by omega)).symm) (fun j hj => (gD_of g4 (by omega)).symm) j
  rw [el] at r4
  refine V_vret rfl rfl (hq _ (fun j hj => (FA.2 j (by omega)).trans (kp1 j hj)) ?_)
  have sl4 : slr G4 := by
    obtain ⟨a1, a2, a3, m9, b9, a4, a5⟩ := hsl
    exact ⟨FA.get (by omega) a1, a2.fp (fun j a c => FA.2 j (by omega)), sm2.fp (fun j a c => (F4.2 j (by omega)).trans (F3.2 j (by omega))), m9, b9, FA.get (by omega) a4, FA.get (by omega) a5⟩
  exact R1.lo (R1.1.1.fp (fun j a c => FA.2 j (by omega))) (R1.1.2.1.fp (fun j a c => FA.2 j (by omega))) sl4 r4 (fun j hj => FA.2 j (by omega))
theorem c_out {S : SG} {x : Int32} (h : RC S G) (hq : ∀ G', Kp G G' → RC (aOu S x.toInt).2.2 G' → Q (oI [EIO] (aOu S x.toInt).1 (aOu S x.toInt).2.1) G') : C K 1 6 mX11_out [.ref 0, .int x] G Q := by
  obtain ⟨tp0, sp0, g0⟩ := h.sw
  have ho := h.1.2.2.2.2.2.2.1
  refine C_of okX11_out (Nat.le_of_ble_eq_true rfl) ?_
  refine V_aload_n rfl (by first | rfl | assumption) ?_
  refine V_getf rfl rfl rfl (by repeat (first | exact hup_eq | assumption | refine Eq.trans (hup_ne (by first | assumption | exact Ne.symm (by assumption) | decide | omega)) ?_)) (by first | rfl | assumption) ?_
  refine V_iload_n rfl (by first | rfl | assumption) ?_
  refine V_callS (M' := mX11_byteOf) (mc := 1) (ms := 6) (bc' := 0) (bs' := 0) rfl cw_X11_156 is_X11_byteOf rfl (Nat.le_of_ble_eq_true rfl) ⟨Nat.le_of_ble_eq_true rfl, Nat.le_of_ble_eq_true rfl⟩ ⟨Nat.le_of_ble_eq_true rfl, Nat.le_of_ble_eq_true rfl⟩ (As := [.ref 130, .int x]) (c_byteOf (Q := fun o G1 => (o = .inl (some (.int (aOu S x.toInt).2.1)) ∧ (aOu S x.toInt).1 = 0 ∧ aOu S x.toInt = (0, (aOu S x.toInt).2.1, S) ∧ G1 = G) ∨ (o = .inr EIO ∧ aOu S x.toInt = (1, 0, S) ∧ G1 = (G.1, none))) ho (by decide) (fun a b => ?_) (fun a => ?_)) (fun o G1 h1 => ?_) (fun E G' h1 => ?_)
  · have U : aOu S x.toInt = (0, nI (gD (lou S) x.toInt.toNat), S) := by have b : x.toInt < ((lou S).length : Int) := b; unfold aOu; rw [if_neg (by omega)]
    rw [U]
    exact Or.inl ⟨rfl, rfl, rfl, rfl⟩
  · have U : aOu S x.toInt = (1, 0, S) := by unfold aOu; rw [if_pos a]
    exact Or.inr ⟨rfl, U, rfl⟩
  · rcases h1 with ⟨a, b, c, rfl⟩ | ⟨a, b, c⟩
    · cases a
      rw [c] at hq
      exact V_iret rfl rfl (hq G1 Kp.rf h)
    · cases a
  · rcases h1 with ⟨a, b, c, d⟩ | ⟨a, b, rfl⟩
    · cases a
    · cases a
      rw [b] at hq
      exact hq _ Kp.rf.nn h.nn
theorem c_type {S : SG} {w : Int64} {x : Int32} (h : RC S G) (hq : ∀ G', Kp G G' → RC (aTy S w x.toInt).2.2 G' → Q (.inl (some (.int (aTy S w x.toInt).2.1))) G') : C K 0 0 mX11_type [.ref 0, .long w, .int x] G Q := by
  obtain ⟨tp, sp, htp, g0, rt, s9⟩ := id h.1.2.2.2.2.2.2.2.2.2
  refine C_of okX11_type (Nat.le_of_ble_eq_true rfl) ?_
  have bad : x.toInt < 1 ∨ 8 < x.toInt ∨ 600 < ((tpe S).length : Int) + x.toInt → V K 0 0 mX11_type 22 (kla [.ref 0, .long w, .int x]) [] G Q := by
    intro z
    have U : aTy S w x.toInt = (0, 0, S) := by unfold aTy; rw [if_pos z]
    rw [U] at hq
    refine V_iconst (v := 0) rfl (by decide) ?_
    exact V_zret rfl rfl (Or.inl rfl) (hq _ Kp.rf h)
  refine V_iload_n rfl (by rfl) ?_
  refine V_iconst (v := 1) rfl (by decide) ?_
  refine V_icmp_ltZ (b := 1) rfl rfl (by decide) (fun z => bad (Or.inl z)) (fun z1 => ?_)
  refine V_iload_n rfl (by rfl) ?_
  refine V_bipush (v := 8) rfl (by decide) ?_
  refine V_icmp_gtZ (b := 8) rfl rfl (by decide) (fun z => bad (Or.inr (Or.inl z))) (fun z2 => ?_)
  obtain ⟨hc1, hc2⟩ := i32_n (x := x) (by omega)
  obtain ⟨m, hm⟩ : ∃ m, m = x.toInt.toNat := ⟨_, rfl⟩
  have hxm : x.toInt = (m : Int) := by omega
  rw [← hm] at hc1 hc2
  rw [hxm] at hq bad
  have hm8 : 1 ≤ m ∧ m ≤ 8 := by omega
  clear z1 z2 hm hxm
  subst hc1
  obtain ⟨g1, g2, b, g3, g4, g5⟩ := id rt
  have g1' : G.1 tp = some (ROB (tp + 1) (tpe S).length) := g1
  refine V_aload_n rfl (by first | rfl | assumption) ?_
  refine V_getf rfl rfl rfl (by repeat (first | exact hup_eq | assumption | refine Eq.trans (hup_ne (by first | assumption | exact Ne.symm (by assumption) | decide | omega)) ?_)) (by first | rfl | assumption) ?_
  refine V_iload_n rfl (by first | rfl | assumption) ?_
  refine V_callV (M' := mX6_hasRoom) (mc := 0) (ms := 0) (bc' := 0) (bs' := 0) rfl cw_X11_80 iv_X6_hasRoom (by repeat (first | exact hup_eq | assumption | refine Eq.trans (hup_ne (by first | assumption | exact Ne.symm (by assumption) | decide | omega)) ?_)) rfl rfl (Nat.le_of_ble_eq_true rfl) ⟨Nat.le_of_ble_eq_true rfl, Nat.le_of_ble_eq_true rfl⟩ ⟨Nat.le_of_ble_eq_true rfl, Nat.le_of_ble_eq_true rfl⟩ (As := [.int (nI m)]) (c_Row_hasRoom (Q := fun o G2 => o = .inl (some (.int (if nI 600 < nI (tpe S).length + nI m then 0 else 1))) ∧ G2 = G) g1' g3 ⟨rfl, rfl⟩) (fun o G2 h => ?_) (fun E G' h => by cases h.1)
  obtain ⟨h0, rfl⟩ := h
  cases h0
  have g2 : (tpe S).length ≤ 600 := g2
  rw [nI_add]
  by_cases hr : 600 < (tpe S).length + m
  · rw [if_pos (nI_lt hr (by omega))]
    refine V_if_ne rfl (fun z => absurd rfl z) (fun _ => bad (Or.inr (Or.inr (by omega))))
  rw [if_neg (fun q => hr ((nI_ltI (by decide) (by omega)).mp q))]
  refine V_if_ne rfl (fun _ => ?_) (fun z => absurd z (by decide))
  clear bad
  have U : aTy S w (m : Int) = (0, 1, sT S (tpe S ++ lst (tyB w) m)) := by
    unfold aTy
    rw [if_neg (by omega)]
    rfl
  rw [U] at hq
  refine V_iconst (v := nI 0) rfl (by decide) ?_
  refine V_istore rfl (by decide) ?_
  have LP := V_loop (K := K) (bc := 0) (bs := 0) (M := mX11_type) (head := 27) (Q := Q) m (fun i lc G' => lc 0 = some (.ref 0) ∧ lc 1 = some (.long w) ∧ lc 2 = some kmk ∧ lc 3 = some (.int (nI m)) ∧ lc 4 = some (.int (nI i)) ∧ FP (fun j => j = tp ∨ j = tp + 1) G2 G' ∧ Rw G' tp (tp + 1) 600 (tpe S ++ lst (tyB w) i)) ?_ ?_
  · refine LP 0 _ _ (by omega) ⟨rfl, rfl, rfl, rfl, rfl, FP.rf, ?_⟩
    rw [lst_0, List.append_nil]
    exact rt
  · rintro i lc G3 hi ⟨l0, l1, l2, l3, l4, F, r3⟩ again
    have q0 := F.get (by omega) g0
    have r31 := r3.1
    refine V_iload rfl (by first | rfl | assumption) ?_
    refine V_iload_n rfl (by first | rfl | assumption) ?_
    refine V_icmp_geN rfl (by omega) (by omega) (fun z => absurd z (by omega)) (fun _ => ?_)
    refine V_aload_n rfl (by first | rfl | assumption) ?_
    refine V_getf rfl rfl rfl (by repeat (first | exact hup_eq | assumption | refine Eq.trans (hup_ne (by first | assumption | exact Ne.symm (by assumption) | decide | omega)) ?_)) (by first | rfl | assumption) ?_
    refine V_lload_n rfl (by assumption) (by assumption) ?_
    refine V_bipush (v := nI 8) rfl (by decide) ?_
    refine V_iload rfl (by assumption) ?_
    refine V_imulN rfl ?_
    refine V_lshr rfl ?_
    refine V_l2i rfl ?_
    refine V_sipush (v := 255) rfl (by decide) ?_
    refine V_iand rfl ?_
    have ev : (w >>> ((nI (8 * i)).toInt64 &&& 63)).toInt32 &&& 255 = nI (tyB w i) := by
      rw [nI_self (w >>> ((nI (8 * i)).toInt64 &&& 63)).toInt32, mask255]
      rfl
    rw [ev]
    refine V_callV (M' := mX6_put) (mc := 0) (ms := 0) (bc' := 0) (bs' := 0) rfl cw_X11_84 iv_X6_put (by repeat (first | exact hup_eq | assumption | refine Eq.trans (hup_ne (by first | assumption | exact Ne.symm (by assumption) | decide | omega)) ?_)) rfl rfl (Nat.le_of_ble_eq_true rfl) ⟨Nat.le_of_ble_eq_true rfl, Nat.le_of_ble_eq_true rfl⟩ ⟨Nat.le_of_ble_eq_true rfl, Nat.le_of_ble_eq_true rfl⟩ (As := [.int (nI (tyB w i))]) (c_putL (Q := fun o G4 => o = .inl none ∧ FP (fun j => j = tp ∨ j = tp + 1) G3 G4 ∧ Rw G4 tp (tp + 1) 600 (tpe S ++ lst (tyB w) i ++ [tyB w i])) r3 (by rw [List.length_append, lst_len]; omega) (by decide) (Nat.mod_lt _ (by decide)) (fun G1 h1 h2 => ⟨rfl, h1, h2⟩)) (fun o G4 h => ?_) (fun E G' h => by cases h.1)
    obtain ⟨h0, F4, r4⟩ := h
    cases h0
    refine V_iincN (d := 1) rfl (by assumption) (by decide) (by decide) ?_
    refine V_goto rfl ?_
    refine again _ _ ⟨l0, l1, l2, l3, rfl, F.trans F4 (fun x hx => hx), ?_⟩
    rw [lst_s, ← List.append_assoc]
    exact r4
  · rintro lc G3 ⟨l0, l1, l2, l3, l4, F, r3⟩
    refine V_iload rfl (by first | rfl | assumption) ?_
    refine V_iload_n rfl (by first | rfl | assumption) ?_
    refine V_icmp_geN rfl (by omega) (by omega) (fun _ => ?_) (fun z => absurd (Nat.le_refl _) z)
    refine V_iconst (v := 1) rfl (by decide) ?_
    refine V_zret rfl rfl (Or.inr rfl) (hq _ (F.kp (fun x hx => by omega)) ?_)
    refine h.tape (fun j a c => F.2 j (by omega)) ⟨tp, sp, htp, F.get (by omega) g0, r3, ?_⟩
    obtain ⟨m9, b9, a1, a2⟩ := s9
    exact ⟨m9, b9, F.get (by omega) a1, F.get (by omega) a2⟩
end CClass13
