section MWire5
variable {K : kK} {G : kG} {Q : kO → kG → Prop} {T : TB} {S : SG} {th ta os hs ps rs : Int32}
def onR0 (T : TB) (S0 : SG) (c : List Nat) : SG :=
  let S1 := tks S0 1
  let s := S1.1 1
  let host := mulB (S0.2.1 0) nine
  let sh := mulB (rw9 s 3) (sft (gD c) 1)
  let H := agr T (rw9 s 5) (rw9 s 4) host (sft (gD c) 1) (pub s) sh
  let pr := prf T (mulB (S0.2.1 0) (sft (gD c) 1)) H
  let S2 := emt T (emt T S1 1 (31 :: (lst host 32 ++ lst (pub s) 32 ++ lst pr 32))) 1 [21]
  sE S2 1 (tnk T (S2.1 1) sh H 67 65)
theorem onR_0 {c : List Nat} : onR T S c = onR0 T (sE S 1 (sfl (S.1 1) 4 true)) c := rfl
abbrev PA (j : Nat) : Prop := (140 ≤ j ∧ j ≤ 179 ∧ j ≠ 141 ∧ j ≠ 142 ∧ j ≠ 180) ∨ j = 179
set_option maxHeartbeats 16000000 in
theorem c_manswer {c : List Nat} (hqt : qtO T.2.2) (g140 : G.1 140 = some (MO th ta os hs ps rs)) (hR : RM T S G) (hrd : rdM c G) (hc : c.length = 33) (hsent : nm (S.1 1) 0 + 2 < 2 ^ 31)
    (hq : ∀ G' hs' ps', FP PA G G' → G'.1 140 = some (MO th ta os hs' ps' rs) → RM T (onR0 T S c) G' → Q (.inl none) G') : C K 0 0 mX12_answer [.ref 140] G Q := by
  refine C_of okX12_answer (Nat.le_of_ble_eq_true rfl) ?_
  refine V_aload_n rfl (by first | rfl | assumption) ?_
  refine V_iconst (v := nI 1) rfl (by decide) ?_
  refine V_callV (M' := mX12_takeSecret) (mc := 0) (ms := 0) (bc' := 0) (bs' := 0) rfl cw_X12_327 iv_X12_takeSecret (by repeat (first | exact hup_eq | assumption | refine Eq.trans (hup_ne (by first | assumption | exact Ne.symm (by assumption) | decide | omega)) ?_)) rfl rfl (Nat.le_of_ble_eq_true rfl) ⟨Nat.le_of_ble_eq_true rfl, Nat.le_of_ble_eq_true rfl⟩ ⟨Nat.le_of_ble_eq_true rfl, Nat.le_of_ble_eq_true rfl⟩ (As := [.int (nI 1)]) (c_mtakeS (e := 1) (Q := fun o G1 => o = .inl none ∧ ∃ R', FP PC G G1 ∧ RM T (tks S 1) G1 ∧ G1.1 157 = some (YA 640 R') ∧ rowP (tks S 1) R' ∧ ∀ j, j < 32 → R' (288 + j) = pub ((tks S 1).1 1) j) (by decide) g140 hR (fun G1 R' h1 h2 h3 h4 h5 => ⟨rfl, R', h1, h2, h3, h4, h5⟩)) (fun o G1 h => ?_) (fun E G' h => by cases h.1)
  obtain ⟨h, R0, F1, hRM, k157, hRP, hpub⟩ := h
  cases h
  have k140 := F1.get (by decide) g140
  have hrd := hrd.fp (F1.2 180 (by decide))
  obtain ⟨S1, hS1⟩ : ∃ S1, S1 = tks S 1 := ⟨_, rfl⟩
  have hns : nm (S1.1 1) 0 = nm (S.1 1) 0 := by rw [hS1]; unfold tks; rw [sE_e]; rfl
  have hS21 : S1.2.1 = S.2.1 := by rw [hS1]; rfl
  obtain ⟨ho, hho⟩ : ∃ ho, ho = mulB (S.2.1 0) nine := ⟨_, rfl⟩
  obtain ⟨sh, hsh⟩ : ∃ sh, sh = mulB (rw9 (S1.1 1) 3) (sft (gD c) 1) := ⟨_, rfl⟩
  obtain ⟨pm, hpm⟩ : ∃ pm, pm = mulB (S.2.1 0) (sft (gD c) 1) := ⟨_, rfl⟩
  obtain ⟨H, hH⟩ : ∃ H, H = agr T (rw9 (S1.1 1) 5) (rw9 (S1.1 1) 4) ho (sft (gD c) 1) (pub (S1.1 1)) sh := ⟨_, rfl⟩
  obtain ⟨pr, hpr⟩ : ∃ pr, pr = prf T pm H := ⟨_, rfl⟩
  have U : onR0 T S c = sE (emt T (emt T S1 1 (31 :: (lst ho 32 ++ lst (pub (S1.1 1)) 32 ++ lst pr 32))) 1 [21]) 1 (tnk T ((emt T (emt T S1 1 (31 :: (lst ho 32 ++ lst (pub (S1.1 1)) 32 ++ lst pr 32))) 1 [21]).1 1) sh H 67 65) := by
    subst hpr hH hpm hsh hho hS1
    rfl
  rw [U] at hq
  clear U
  rw [← hS1] at hRM hRP hpub
  clear hS1
  have hFin : ∀ (G' : kG) (hs' ps' : Int32), FP PA G1 G' → FP PA G G' := fun G' _ _ q => (F1.sub (fun x hx => by show _ ∨ _; omega)).trans q (fun _ q => q)
  obtain ⟨rb, k180, hrb, hrl⟩ := id hrd
  have hrg : ∀ j, j < 32 → rb (1 + j) = sft (gD c) 1 j := fun j hj => (gD_of hrl (by omega)).symm
  refine V_iconst (v := nI 0) rfl (by decide) ?_
  refine V_istore_n rfl (by decide) ?_
  refine V_loop 32 (fun i lc G' => lc 0 = some (.ref 140) ∧ lc 1 = some (.int (nI i)) ∧ G' = hup G1 157 (YA 640 (ovw R0 (32 * 16) i (sft (gD c) 1)))) ?_ ?_ 0 _ _ (Nat.zero_le _) ⟨rfl, rfl, by rw [ovw_0, hup_same k157]⟩
  · rintro i lc G' hi ⟨l0, l1, rfl⟩ ih
    have hb := hrb (1 + i)
    refine V_iload_n rfl (by first | rfl | assumption) ?_
    refine V_bipush (v := nI 32) rfl (by decide) ?_
    refine V_icmp_geN rfl (by omega) (by decide) (fun h => absurd h (by omega)) (fun _ => ?_)
    refine V_aload_n rfl (by first | rfl | assumption) ?_
    refine V_getf rfl rfl rfl (by repeat (first | exact hup_eq | assumption | refine Eq.trans (hup_ne (by first | assumption | exact Ne.symm (by assumption) | decide | omega)) ?_)) (by first | rfl | assumption) ?_
    refine V_bipush (v := nI 16) rfl (by decide) ?_
    refine V_callS (M' := mX12_row) (mc := 0) (ms := 0) (bc' := 0) (bs' := 0) rfl cw_X12_267 is_X12_row rfl (Nat.le_of_ble_eq_true rfl) ⟨Nat.le_of_ble_eq_true rfl, Nat.le_of_ble_eq_true rfl⟩ ⟨Nat.le_of_ble_eq_true rfl, Nat.le_of_ble_eq_true rfl⟩ (As := [.int (nI 16)]) (c_mrow (Q := fun o G2 => o = .inl (some (.int (nI (32 * 16)))) ∧ G2 = hup G1 157 (YA 640 (ovw R0 (32 * 16) i (sft (gD c) 1)))) ⟨rfl, rfl⟩) (fun o G2 h => ?_) (fun E G' h => by cases h.1)
    obtain ⟨h, rfl⟩ := h
    cases h
    refine V_iload_n rfl (by first | rfl | assumption) ?_
    refine V_iaddN rfl ?_
    refine V_aload_n rfl (by first | rfl | assumption) ?_
    refine V_getf rfl rfl rfl (by repeat (first | exact hup_eq | assumption | refine Eq.trans (hup_ne (by first | assumption | exact Ne.symm (by assumption) | decide | omega)) ?_)) (by first | rfl | assumption) ?_
    refine V_iconst (v := nI 1) rfl (by decide) ?_
    refine V_iload_n rfl (by first | rfl | assumption) ?_
    refine V_iaddN rfl ?_
    refine V_baldB rfl (by repeat (first | exact hup_eq | assumption | refine Eq.trans (hup_ne (by first | assumption | exact Ne.symm (by assumption) | decide | omega)) ?_)) rfl (by first | omega | decide) (by first | omega | decide) ?_
    refine V_bastB rfl (by repeat (first | exact hup_eq | assumption | refine Eq.trans (hup_ne (by first | assumption | exact Ne.symm (by assumption) | decide | omega)) ?_)) rfl (by first | omega | decide) (by first | omega | decide) (by first | assumption | solve_by_elim | exact Nat.mod_lt _ (by decide) | omega) ?_
    refine V_iincN (d := 1) rfl (by first | rfl | assumption) (by decide) (by decide) ?_
    refine V_goto rfl ?_
    rw [hup_hup, ovw_s' (g := sft (gD c) 1) (hrg i hi)]
    exact ih _ _ ⟨l0, rfl, rfl⟩
  rintro lc G' ⟨l0, l1, rfl⟩
  refine V_iload_n rfl (by first | rfl | assumption) ?_
  refine V_bipush (v := nI 32) rfl (by decide) ?_
  refine V_icmp_geN rfl (by decide) (by decide) (fun _ => ?_) (fun h => absurd (Nat.le_refl _) h)
  have hcb : ∀ j, j < 32 → sft (gD c) 1 j < 256 := fun j hj => by rw [← hrg j hj]; exact hrb _
  obtain ⟨R1, hR1⟩ : ∃ R1, R1 = ovw R0 (32 * 16) 32 (sft (gD c) 1) := ⟨_, rfl⟩
  have hRP1 : rowP S1 R1 := by rw [hR1]; exact hRP.sc (by decide) hcb
  rw [← hR1]
  have hRM1 : RM T S1 (hup G1 157 (YA 640 R1)) := hRM.sr (hRM.1.fp (fun j hj => hup_ne (by omega))) ⟨_, hup_eq, hRP1⟩ (fun j a b => hup_ne (by omega))
  obtain ⟨Gx, hGx⟩ : ∃ Gx, Gx = hup G1 157 (YA 640 R1) := ⟨_, rfl⟩
  rw [← hGx] at hRM1 ⊢
  have FC : FP PC G1 Gx := by rw [hGx]; exact FP.rf.hup (by decide)
  have j157 : Gx.1 157 = some (YA 640 R1) := by rw [hGx, hup_eq]
  clear hGx hRM hRP k157
  have k157 := j157
  have hRM := hRM1
  have hRP := hRP1
  have k140 := FC.get (by decide) k140
  have hrd := hrd.fp (FC.2 180 (by decide))
  clear hRM1 hRP1 j157
  refine V_aload_n rfl (by first | rfl | assumption) ?_
  refine V_aload_n rfl (by first | rfl | assumption) ?_
  refine V_getf rfl rfl rfl (by repeat (first | exact hup_eq | assumption | refine Eq.trans (hup_ne (by first | assumption | exact Ne.symm (by assumption) | decide | omega)) ?_)) (by first | rfl | assumption) ?_
  refine V_bipush (v := nI 6) rfl (by decide) ?_
  refine V_callS (M' := mX12_row) (mc := 0) (ms := 0) (bc' := 0) (bs' := 0) rfl cw_X12_267 is_X12_row rfl (Nat.le_of_ble_eq_true rfl) ⟨Nat.le_of_ble_eq_true rfl, Nat.le_of_ble_eq_true rfl⟩ ⟨Nat.le_of_ble_eq_true rfl, Nat.le_of_ble_eq_true rfl⟩ (As := [.int (nI 6)]) (c_mrow (Q := fun o G9 => o = .inl (some (.int (nI (32 * 6)))) ∧ G9 = Gx) ⟨rfl, rfl⟩) (fun o G9 h => ?_) (fun E G' h => by cases h.1)
  obtain ⟨h, h9⟩ := h
  cases h
  rw [h9]
  clear h9
  refine V_aload_n rfl (by first | rfl | assumption) ?_
  refine V_getf rfl rfl rfl (by repeat (first | exact hup_eq | assumption | refine Eq.trans (hup_ne (by first | assumption | exact Ne.symm (by assumption) | decide | omega)) ?_)) (by first | rfl | assumption) ?_
  refine V_bipush (v := nI 8) rfl (by decide) ?_
  refine V_callS (M' := mX12_row) (mc := 0) (ms := 0) (bc' := 0) (bs' := 0) rfl cw_X12_267 is_X12_row rfl (Nat.le_of_ble_eq_true rfl) ⟨Nat.le_of_ble_eq_true rfl, Nat.le_of_ble_eq_true rfl⟩ ⟨Nat.le_of_ble_eq_true rfl, Nat.le_of_ble_eq_true rfl⟩ (As := [.int (nI 8)]) (c_mrow (Q := fun o G9 => o = .inl (some (.int (nI (32 * 8)))) ∧ G9 = Gx) ⟨rfl, rfl⟩) (fun o G9 h => ?_) (fun E G' h => by cases h.1)
  obtain ⟨h, h9⟩ := h
  cases h
  rw [h9]
  clear h9
  refine V_aload_n rfl (by first | rfl | assumption) ?_
  refine V_getf rfl rfl rfl (by repeat (first | exact hup_eq | assumption | refine Eq.trans (hup_ne (by first | assumption | exact Ne.symm (by assumption) | decide | omega)) ?_)) (by first | rfl | assumption) ?_
  refine V_bipush (v := nI 10) rfl (by decide) ?_
  refine V_callS (M' := mX12_row) (mc := 0) (ms := 0) (bc' := 0) (bs' := 0) rfl cw_X12_267 is_X12_row rfl (Nat.le_of_ble_eq_true rfl) ⟨Nat.le_of_ble_eq_true rfl, Nat.le_of_ble_eq_true rfl⟩ ⟨Nat.le_of_ble_eq_true rfl, Nat.le_of_ble_eq_true rfl⟩ (As := [.int (nI 10)]) (c_mrow (Q := fun o G9 => o = .inl (some (.int (nI (32 * 10)))) ∧ G9 = Gx) ⟨rfl, rfl⟩) (fun o G9 h => ?_) (fun E G' h => by cases h.1)
  obtain ⟨h, h9⟩ := h
  cases h
  rw [h9]
  clear h9
  refine V_callV (M' := mX12_pointTimes) (mc := 0) (ms := 0) (bc' := 0) (bs' := 0) rfl cw_X12_270 iv_X12_pointTimes (by repeat (first | exact hup_eq | assumption | refine Eq.trans (hup_ne (by first | assumption | exact Ne.symm (by assumption) | decide | omega)) ?_)) rfl rfl (Nat.le_of_ble_eq_true rfl) ⟨Nat.le_of_ble_eq_true rfl, Nat.le_of_ble_eq_true rfl⟩ ⟨Nat.le_of_ble_eq_true rfl, Nat.le_of_ble_eq_true rfl⟩ (As := [.ref 157, .int (nI (32 * 6)), .ref 157, .int (nI (32 * 8)), .ref 157, .int (nI (32 * 10))]) (c_mpoint (Q := fun o Ga1 => o = .inl none ∧ FP PC Gx Ga1 ∧ (∃ D, crM D Ga1) ∧ Ga1.1 157 = some (YA 640 (ovw R1 (32 * 10) 32 (mulB (sft R1 (32 * 6)) (sft R1 (32 * 8)))))) k140 hRM.1.1 k157 k157 k157 (by decide) (by decide) (by decide) (by decide) (by decide) (by decide) hRP.1 hRP.1 (fun G3 h1 h2 h3 => ⟨rfl, h1, h2, h3⟩)) (fun o Ga1 h => ?_) (fun E G' h => by cases h.1)
  obtain ⟨h, FX, hD, k157⟩ := h
  cases h
  have em : mulB (sft R1 (32 * 6)) (sft R1 (32 * 8)) = ho := by rw [hho]; exact mulB_congr (fun j hj => by rw [← hS21]; exact (hRP.2 j hj).2.1) (fun j hj => (hRP.2 j hj).2.2.2)
  rw [em] at k157
  have hX := hRM.mul hRP FX hD k157 (by decide) (fun j _ => by rw [hho]; exact mulB_lt _ _ j)
  clear em hRM hRP
  have hRM := hX.1
  have hRP := hX.2
  clear hX hD
  have k140 := FX.get (by decide) k140
  have hrd := hrd.fp (FX.2 180 (by decide))
  obtain ⟨R2, hR2⟩ : ∃ R2, R2 = ovw R1 (32 * 10) 32 (ho) := ⟨_, rfl⟩
  rw [← hR2] at k157 hRP
  have FC := FC.trans FX (fun _ q => q)
  have r16 : ∀ j, j < 32 → R2 (32 * 16 + j) = sft (gD c) 1 j := fun j hj => by rw [hR2, ovw_out (by omega), hR1, ovw_in hj]
  refine V_aload_n rfl (by first | rfl | assumption) ?_
  refine V_aload_n rfl (by first | rfl | assumption) ?_
  refine V_getf rfl rfl rfl (by repeat (first | exact hup_eq | assumption | refine Eq.trans (hup_ne (by first | assumption | exact Ne.symm (by assumption) | decide | omega)) ?_)) (by first | rfl | assumption) ?_
  refine V_iconst (v := nI 3) rfl (by decide) ?_
  refine V_callS (M' := mX12_row) (mc := 0) (ms := 0) (bc' := 0) (bs' := 0) rfl cw_X12_267 is_X12_row rfl (Nat.le_of_ble_eq_true rfl) ⟨Nat.le_of_ble_eq_true rfl, Nat.le_of_ble_eq_true rfl⟩ ⟨Nat.le_of_ble_eq_true rfl, Nat.le_of_ble_eq_true rfl⟩ (As := [.int (nI 3)]) (c_mrow (Q := fun o G9 => o = .inl (some (.int (nI (32 * 3)))) ∧ G9 = Ga1) ⟨rfl, rfl⟩) (fun o G9 h => ?_) (fun E G' h => by cases h.1)
  obtain ⟨h, h9⟩ := h
  cases h
  rw [h9]
  clear h9
  refine V_aload_n rfl (by first | rfl | assumption) ?_
  refine V_getf rfl rfl rfl (by repeat (first | exact hup_eq | assumption | refine Eq.trans (hup_ne (by first | assumption | exact Ne.symm (by assumption) | decide | omega)) ?_)) (by first | rfl | assumption) ?_
  refine V_bipush (v := nI 16) rfl (by decide) ?_
  refine V_callS (M' := mX12_row) (mc := 0) (ms := 0) (bc' := 0) (bs' := 0) rfl cw_X12_267 is_X12_row rfl (Nat.le_of_ble_eq_true rfl) ⟨Nat.le_of_ble_eq_true rfl, Nat.le_of_ble_eq_true rfl⟩ ⟨Nat.le_of_ble_eq_true rfl, Nat.le_of_ble_eq_true rfl⟩ (As := [.int (nI 16)]) (c_mrow (Q := fun o G9 => o = .inl (some (.int (nI (32 * 16)))) ∧ G9 = Ga1) ⟨rfl, rfl⟩) (fun o G9 h => ?_) (fun E G' h => by cases h.1)
  obtain ⟨h, h9⟩ := h
  cases h
  rw [h9]
  clear h9
  refine V_aload_n rfl (by first | rfl | assumption) ?_
  refine V_getf rfl rfl rfl (by repeat (first | exact hup_eq | assumption | refine Eq.trans (hup_ne (by first | assumption | exact Ne.symm (by assumption) | decide | omega)) ?_)) (by first | rfl | assumption) ?_
  refine V_bipush (v := nI 11) rfl (by decide) ?_
  refine V_callS (M' := mX12_row) (mc := 0) (ms := 0) (bc' := 0) (bs' := 0) rfl cw_X12_267 is_X12_row rfl (Nat.le_of_ble_eq_true rfl) ⟨Nat.le_of_ble_eq_true rfl, Nat.le_of_ble_eq_true rfl⟩ ⟨Nat.le_of_ble_eq_true rfl, Nat.le_of_ble_eq_true rfl⟩ (As := [.int (nI 11)]) (c_mrow (Q := fun o G9 => o = .inl (some (.int (nI (32 * 11)))) ∧ G9 = Ga1) ⟨rfl, rfl⟩) (fun o G9 h => ?_) (fun E G' h => by cases h.1)
  obtain ⟨h, h9⟩ := h
  cases h
  rw [h9]
  clear h9
  refine V_callV (M' := mX12_pointTimes) (mc := 0) (ms := 0) (bc' := 0) (bs' := 0) rfl cw_X12_270 iv_X12_pointTimes (by repeat (first | exact hup_eq | assumption | refine Eq.trans (hup_ne (by first | assumption | exact Ne.symm (by assumption) | decide | omega)) ?_)) rfl rfl (Nat.le_of_ble_eq_true rfl) ⟨Nat.le_of_ble_eq_true rfl, Nat.le_of_ble_eq_true rfl⟩ ⟨Nat.le_of_ble_eq_true rfl, Nat.le_of_ble_eq_true rfl⟩ (As := [.ref 157, .int (nI (32 * 3)), .ref 157, .int (nI (32 * 16)), .ref 157, .int (nI (32 * 11))]) (c_mpoint (Q := fun o Ga2 => o = .inl none ∧ FP PC Ga1 Ga2 ∧ (∃ D, crM D Ga2) ∧ Ga2.1 157 = some (YA 640 (ovw R2 (32 * 11) 32 (mulB (sft R2 (32 * 3)) (sft R2 (32 * 16)))))) k140 hRM.1.1 k157 k157 k157 (by decide) (by decide) (by decide) (by decide) (by decide) (by decide) hRP.1 hRP.1 (fun G3 h1 h2 h3 => ⟨rfl, h1, h2, h3⟩)) (fun o Ga2 h => ?_) (fun E G' h => by cases h.1)
  obtain ⟨h, FX, hD, k157⟩ := h
  cases h
  have em : mulB (sft R2 (32 * 3)) (sft R2 (32 * 16)) = sh := by rw [hsh]; exact mulB_congr (fun j hj => ((hRP.2 j hj).1 1 (by decide)).2.1) (fun j hj => r16 j hj)
  rw [em] at k157
  have hX := hRM.mul hRP FX hD k157 (by decide) (fun j _ => by rw [hsh]; exact mulB_lt _ _ j)
  clear em hRM hRP
  have hRM := hX.1
  have hRP := hX.2
  clear hX hD
  have k140 := FX.get (by decide) k140
  have hrd := hrd.fp (FX.2 180 (by decide))
  obtain ⟨R3, hR3⟩ : ∃ R3, R3 = ovw R2 (32 * 11) 32 (sh) := ⟨_, rfl⟩
  rw [← hR3] at k157 hRP
  have FC := FC.trans FX (fun _ q => q)
  have r16 : ∀ j, j < 32 → R3 (32 * 16 + j) = sft (gD c) 1 j := fun j hj => by rw [hR3, ovw_out (by omega)]; exact r16 j hj
  refine V_aload_n rfl (by first | rfl | assumption) ?_
  refine V_aload_n rfl (by first | rfl | assumption) ?_
  refine V_getf rfl rfl rfl (by repeat (first | exact hup_eq | assumption | refine Eq.trans (hup_ne (by first | assumption | exact Ne.symm (by assumption) | decide | omega)) ?_)) (by first | rfl | assumption) ?_
  refine V_bipush (v := nI 6) rfl (by decide) ?_
  refine V_callS (M' := mX12_row) (mc := 0) (ms := 0) (bc' := 0) (bs' := 0) rfl cw_X12_267 is_X12_row rfl (Nat.le_of_ble_eq_true rfl) ⟨Nat.le_of_ble_eq_true rfl, Nat.le_of_ble_eq_true rfl⟩ ⟨Nat.le_of_ble_eq_true rfl, Nat.le_of_ble_eq_true rfl⟩ (As := [.int (nI 6)]) (c_mrow (Q := fun o G9 => o = .inl (some (.int (nI (32 * 6)))) ∧ G9 = Ga2) ⟨rfl, rfl⟩) (fun o G9 h => ?_) (fun E G' h => by cases h.1)
  obtain ⟨h, h9⟩ := h
  cases h
  rw [h9]
  clear h9
  refine V_aload_n rfl (by first | rfl | assumption) ?_
  refine V_getf rfl rfl rfl (by repeat (first | exact hup_eq | assumption | refine Eq.trans (hup_ne (by first | assumption | exact Ne.symm (by assumption) | decide | omega)) ?_)) (by first | rfl | assumption) ?_
  refine V_bipush (v := nI 16) rfl (by decide) ?_
  refine V_callS (M' := mX12_row) (mc := 0) (ms := 0) (bc' := 0) (bs' := 0) rfl cw_X12_267 is_X12_row rfl (Nat.le_of_ble_eq_true rfl) ⟨Nat.le_of_ble_eq_true rfl, Nat.le_of_ble_eq_true rfl⟩ ⟨Nat.le_of_ble_eq_true rfl, Nat.le_of_ble_eq_true rfl⟩ (As := [.int (nI 16)]) (c_mrow (Q := fun o G9 => o = .inl (some (.int (nI (32 * 16)))) ∧ G9 = Ga2) ⟨rfl, rfl⟩) (fun o G9 h => ?_) (fun E G' h => by cases h.1)
  obtain ⟨h, h9⟩ := h
  cases h
  rw [h9]
  clear h9
  refine V_aload_n rfl (by first | rfl | assumption) ?_
  refine V_getf rfl rfl rfl (by repeat (first | exact hup_eq | assumption | refine Eq.trans (hup_ne (by first | assumption | exact Ne.symm (by assumption) | decide | omega)) ?_)) (by first | rfl | assumption) ?_
  refine V_bipush (v := nI 12) rfl (by decide) ?_
  refine V_callS (M' := mX12_row) (mc := 0) (ms := 0) (bc' := 0) (bs' := 0) rfl cw_X12_267 is_X12_row rfl (Nat.le_of_ble_eq_true rfl) ⟨Nat.le_of_ble_eq_true rfl, Nat.le_of_ble_eq_true rfl⟩ ⟨Nat.le_of_ble_eq_true rfl, Nat.le_of_ble_eq_true rfl⟩ (As := [.int (nI 12)]) (c_mrow (Q := fun o G9 => o = .inl (some (.int (nI (32 * 12)))) ∧ G9 = Ga2) ⟨rfl, rfl⟩) (fun o G9 h => ?_) (fun E G' h => by cases h.1)
  obtain ⟨h, h9⟩ := h
  cases h
  rw [h9]
  clear h9
  refine V_callV (M' := mX12_pointTimes) (mc := 0) (ms := 0) (bc' := 0) (bs' := 0) rfl cw_X12_270 iv_X12_pointTimes (by repeat (first | exact hup_eq | assumption | refine Eq.trans (hup_ne (by first | assumption | exact Ne.symm (by assumption) | decide | omega)) ?_)) rfl rfl (Nat.le_of_ble_eq_true rfl) ⟨Nat.le_of_ble_eq_true rfl, Nat.le_of_ble_eq_true rfl⟩ ⟨Nat.le_of_ble_eq_true rfl, Nat.le_of_ble_eq_true rfl⟩ (As := [.ref 157, .int (nI (32 * 6)), .ref 157, .int (nI (32 * 16)), .ref 157, .int (nI (32 * 12))]) (c_mpoint (Q := fun o Ga3 => o = .inl none ∧ FP PC Ga2 Ga3 ∧ (∃ D, crM D Ga3) ∧ Ga3.1 157 = some (YA 640 (ovw R3 (32 * 12) 32 (mulB (sft R3 (32 * 6)) (sft R3 (32 * 16)))))) k140 hRM.1.1 k157 k157 k157 (by decide) (by decide) (by decide) (by decide) (by decide) (by decide) hRP.1 hRP.1 (fun G3 h1 h2 h3 => ⟨rfl, h1, h2, h3⟩)) (fun o Ga3 h => ?_) (fun E G' h => by cases h.1)
  obtain ⟨h, FX, hD, k157⟩ := h
  cases h
  have em : mulB (sft R3 (32 * 6)) (sft R3 (32 * 16)) = pm := by rw [hpm]; exact mulB_congr (fun j hj => by rw [← hS21]; exact (hRP.2 j hj).2.1) (fun j hj => r16 j hj)
  rw [em] at k157
  have hX := hRM.mul hRP FX hD k157 (by decide) (fun j _ => by rw [hpm]; exact mulB_lt _ _ j)
  clear em hRM hRP
  have hRM := hX.1
  have hRP := hX.2
  clear hX hD
  have k140 := FX.get (by decide) k140
  have hrd := hrd.fp (FX.2 180 (by decide))
  obtain ⟨R4, hR4⟩ : ∃ R4, R4 = ovw R3 (32 * 12) 32 (pm) := ⟨_, rfl⟩
  rw [← hR4] at k157 hRP
  have FC := FC.trans FX (fun _ q => q)
  have v16 : ∀ j, j < 32 → sft R4 (32 * 16) j = sft (gD c) 1 j := fun j hj => by unfold sft; rw [hR4, ovw_out (by omega)]; exact r16 j hj
  have v12 : ∀ j, j < 32 → sft R4 (32 * 12) j = pm j := fun j hj => by unfold sft; rw [hR4, ovw_in hj]
  have v11 : ∀ j, j < 32 → sft R4 (32 * 11) j = sh j := fun j hj => by unfold sft; rw [hR4, ovw_out (by omega), hR3, ovw_in hj]
  have v10 : ∀ j, j < 32 → sft R4 (32 * 10) j = ho j := fun j hj => by unfold sft; rw [hR4, ovw_out (by omega), hR3, ovw_out (by omega), hR2, ovw_in hj]
  have v9 : ∀ j, j < 32 → sft R4 (32 * 9) j = pub (S1.1 1) j := fun j hj => by unfold sft; rw [hR4, ovw_out (by omega), hR3, ovw_out (by omega), hR2, ovw_out (by omega), hR1, ovw_out (by omega)]; exact hpub j hj
  have eH : agr T (rw9 (S1.1 1) 5) (rw9 (S1.1 1) 4) (sft R4 (32 * 10)) (sft R4 (32 * 16)) (sft R4 (32 * 9)) (sft R4 (32 * 11)) = H := by
    rw [hH]
    unfold agr
    rw [lst_congr v10, lst_congr v16, lst_congr v9, lst_congr v11]
  have eP : prf T (sft R4 (32 * 12)) H = pr := by rw [hpr]; unfold prf; rw [lst_congr v12]
  have hHb : ∀ j, H j < 256 := fun j => by rw [hH]; exact HSH_lt _ _ _ j
  have hprb : ∀ j, pr j < 256 := fun j => by rw [hpr]; exact HSH_lt _ _ _ j
  clear hR1 hR2 hR3 hR4 hho hsh hpm hH hpr
  refine V_aload_n rfl (by first | rfl | assumption) ?_
  refine V_iconst (v := nI 1) rfl (by decide) ?_
  refine V_bipush (v := nI 16) rfl (by decide) ?_
  refine V_bipush (v := nI 9) rfl (by decide) ?_
  refine V_callV (M' := mX12_digest) (mc := 0) (ms := 0) (bc' := 0) (bs' := 0) rfl cw_X12_330 iv_X12_digest (by repeat (first | exact hup_eq | assumption | refine Eq.trans (hup_ne (by first | assumption | exact Ne.symm (by assumption) | decide | omega)) ?_)) rfl rfl (Nat.le_of_ble_eq_true rfl) ⟨Nat.le_of_ble_eq_true rfl, Nat.le_of_ble_eq_true rfl⟩ ⟨Nat.le_of_ble_eq_true rfl, Nat.le_of_ble_eq_true rfl⟩ (As := [.int (nI 1), .int (nI 16), .int (nI 9)]) (c_mdigest1 (R := R4) (Q := fun o Ga4 => o = .inl none ∧ ∃ hs', FP PD Ga3 Ga4 ∧ RM T S1 Ga4 ∧ Ga4.1 140 = some (MO th ta os hs' ps rs) ∧ Ga4.1 157 = some (YA 640 (ovw (ovw R4 (32 * 13) 32 H) (32 * 14) 32 pr))) k140 hRM k157 hRP (fun G3 hs' h1 h2 h3 h4 => by rw [eH, eP] at h4; exact ⟨rfl, hs', h1, h2, h3, h4⟩)) (fun o Ga4 h => ?_) (fun E G' h => by cases h.1)
  obtain ⟨h, hs9, FX, hRM9, j140, j157⟩ := h
  cases h
  clear hRM k140 k157
  have hRM := hRM9
  clear hRM9
  have FA : FP PA G1 Ga4 := (FC.sub (fun x hx => by show _ ∨ _; omega)).trans FX (fun x hx => by show _ ∨ _; omega)
  obtain ⟨R5, hR5⟩ : ∃ R5, R5 = ovw (ovw R4 (32 * 13) 32 H) (32 * 14) 32 pr := ⟨_, rfl⟩
  have hRP5 : rowP S1 R5 := by rw [hR5]; exact (hRP.sc (by decide) (fun j _ => hHb j)).sc (by decide) (fun j _ => hprb j)
  rw [← hR5] at j157
  have u10 : ∀ j, j < 32 → sft R5 (32 * 10) j = ho j := fun j hj => by unfold sft; rw [hR5, ovw_out (by omega), ovw_out (by omega)]; exact v10 j hj
  have u9 : ∀ j, j < 32 → sft R5 (32 * 9) j = pub (S1.1 1) j := fun j hj => by unfold sft; rw [hR5, ovw_out (by omega), ovw_out (by omega)]; exact v9 j hj
  have u14 : ∀ j, j < 32 → sft R5 (32 * 14) j = pr j := fun j hj => by unfold sft; rw [hR5, ovw_in hj]
  have u13 : ∀ j, j < 32 → R5 (32 * 13 + j) = H j := fun j hj => by rw [hR5, ovw_out (by omega), ovw_in hj]
  have u11 : ∀ j, j < 32 → R5 (32 * 11 + j) = sh j := fun j hj => by rw [hR5, ovw_out (by omega), ovw_out (by omega)]; exact v11 j hj
  clear hR5 v16 v12 v11 v10 v9 eH eP hRP FC FX
  have k140 := j140
  have k157 := j157
  clear j140 j157
  refine V_aload_n rfl (by first | rfl | assumption) ?_
  refine V_iconst (v := nI 0) rfl (by decide) ?_
  refine V_pf_ps rfl rfl rfl (by repeat (first | exact hup_eq | assumption | refine Eq.trans (hup_ne (by first | assumption | exact Ne.symm (by assumption) | decide | omega)) ?_)) ?_
  refine V_aload_n rfl (by first | rfl | assumption) ?_
  refine V_bipush (v := nI 31) rfl (by decide) ?_
  have hp0 : plM [] (hup Ga4 140 (MO th ta os hs9 (nI 0) rs)) := (plM.nl hRM.1.2.2.2.2.2.1).fp (hup_ne (by decide))
  refine V_callV (M' := mX12_say) (mc := 0) (ms := 0) (bc' := 0) (bs' := 0) rfl cw_X12_307 iv_X12_say (by repeat (first | exact hup_eq | assumption | refine Eq.trans (hup_ne (by first | assumption | exact Ne.symm (by assumption) | decide | omega)) ?_)) rfl rfl (Nat.le_of_ble_eq_true rfl) ⟨Nat.le_of_ble_eq_true rfl, Nat.le_of_ble_eq_true rfl⟩ ⟨Nat.le_of_ble_eq_true rfl, Nat.le_of_ble_eq_true rfl⟩ (As := [.int (nI 31)]) (c_msay (p := []) (Q := fun o Ga5 => o = .inl none ∧ FP PP2 (hup Ga4 140 (MO th ta os hs9 (nI 0) rs)) Ga5 ∧ Ga5.1 140 = some (MO th ta os hs9 (nI [31].length) rs) ∧ plM [31] Ga5) hup_eq hp0 (by decide) (fun G2 h1 h2 h3 => ⟨rfl, h1, h2, h3⟩)) (fun o Ga5 h => ?_) (fun E G' h => by cases h.1)
  obtain ⟨h, FX, k140, kp⟩ := h
  cases h
  have FY : FP PP2 Ga4 Ga5 := (FP.rf.hup (by decide)).trans FX (fun _ q => q)
  have k157 := FY.get (by decide) k157
  refine V_aload_n rfl (by first | rfl | assumption) ?_
  refine V_aload_n rfl (by first | rfl | assumption) ?_
  refine V_getf rfl rfl rfl (by repeat (first | exact hup_eq | assumption | refine Eq.trans (hup_ne (by first | assumption | exact Ne.symm (by assumption) | decide | omega)) ?_)) (by first | rfl | assumption) ?_
  refine V_bipush (v := nI 10) rfl (by decide) ?_
  refine V_callS (M' := mX12_row) (mc := 0) (ms := 0) (bc' := 0) (bs' := 0) rfl cw_X12_267 is_X12_row rfl (Nat.le_of_ble_eq_true rfl) ⟨Nat.le_of_ble_eq_true rfl, Nat.le_of_ble_eq_true rfl⟩ ⟨Nat.le_of_ble_eq_true rfl, Nat.le_of_ble_eq_true rfl⟩ (As := [.int (nI 10)]) (c_mrow (Q := fun o G9 => o = .inl (some (.int (nI (32 * 10)))) ∧ G9 = Ga5) ⟨rfl, rfl⟩) (fun o G9 h => ?_) (fun E G' h => by cases h.1)
  obtain ⟨h, h9⟩ := h
  cases h
  rw [h9]
  clear h9
  refine V_bipush (v := nI 32) rfl (by decide) ?_
  refine V_callV (M' := mX12_sayRow) (mc := 0) (ms := 0) (bc' := 0) (bs' := 0) rfl cw_X12_324 iv_X12_sayRow (by repeat (first | exact hup_eq | assumption | refine Eq.trans (hup_ne (by first | assumption | exact Ne.symm (by assumption) | decide | omega)) ?_)) rfl rfl (Nat.le_of_ble_eq_true rfl) ⟨Nat.le_of_ble_eq_true rfl, Nat.le_of_ble_eq_true rfl⟩ ⟨Nat.le_of_ble_eq_true rfl, Nat.le_of_ble_eq_true rfl⟩ (As := [.ref 157, .int (nI (32 * 10)), .int (nI 32)]) (c_msayRow (p := [31]) (Q := fun o Ga6 => o = .inl none ∧ FP PP2 Ga5 Ga6 ∧ Ga6.1 140 = some (MO th ta os hs9 (nI ([31] ++ lst ho 32).length) rs) ∧ plM ([31] ++ lst ho 32) Ga6) k140 kp k157 (by decide) (by decide) (by decide) hRP5.1 (by simp only [List.length_append, List.length_singleton, lst_len]; decide) (fun G3 h1 h2 h3 => by rw [lst_congr u10] at h2 h3; exact ⟨rfl, h1, h2, h3⟩)) (fun o Ga6 h => ?_) (fun E G' h => by cases h.1)
  obtain ⟨h, FX, k140, kp⟩ := h
  cases h
  have FY := FY.trans FX (fun _ q => q)
  have k157 := FX.get (by decide) k157
  refine V_aload_n rfl (by first | rfl | assumption) ?_
  refine V_aload_n rfl (by first | rfl | assumption) ?_
  refine V_getf rfl rfl rfl (by repeat (first | exact hup_eq | assumption | refine Eq.trans (hup_ne (by first | assumption | exact Ne.symm (by assumption) | decide | omega)) ?_)) (by first | rfl | assumption) ?_
  refine V_bipush (v := nI 9) rfl (by decide) ?_
  refine V_callS (M' := mX12_row) (mc := 0) (ms := 0) (bc' := 0) (bs' := 0) rfl cw_X12_267 is_X12_row rfl (Nat.le_of_ble_eq_true rfl) ⟨Nat.le_of_ble_eq_true rfl, Nat.le_of_ble_eq_true rfl⟩ ⟨Nat.le_of_ble_eq_true rfl, Nat.le_of_ble_eq_true rfl⟩ (As := [.int (nI 9)]) (c_mrow (Q := fun o G9 => o = .inl (some (.int (nI (32 * 9)))) ∧ G9 = Ga6) ⟨rfl, rfl⟩) (fun o G9 h => ?_) (fun E G' h => by cases h.1)
  obtain ⟨h, h9⟩ := h
  cases h
  rw [h9]
  clear h9
  refine V_bipush (v := nI 32) rfl (by decide) ?_
  refine V_callV (M' := mX12_sayRow) (mc := 0) (ms := 0) (bc' := 0) (bs' := 0) rfl cw_X12_324 iv_X12_sayRow (by repeat (first | exact hup_eq | assumption | refine Eq.trans (hup_ne (by first | assumption | exact Ne.symm (by assumption) | decide | omega)) ?_)) rfl rfl (Nat.le_of_ble_eq_true rfl) ⟨Nat.le_of_ble_eq_true rfl, Nat.le_of_ble_eq_true rfl⟩ ⟨Nat.le_of_ble_eq_true rfl, Nat.le_of_ble_eq_true rfl⟩ (As := [.ref 157, .int (nI (32 * 9)), .int (nI 32)]) (c_msayRow (p := [31] ++ lst ho 32) (Q := fun o Ga7 => o = .inl none ∧ FP PP2 Ga6 Ga7 ∧ Ga7.1 140 = some (MO th ta os hs9 (nI ([31] ++ lst ho 32 ++ lst (pub (S1.1 1)) 32).length) rs) ∧ plM ([31] ++ lst ho 32 ++ lst (pub (S1.1 1)) 32) Ga7) k140 kp k157 (by decide) (by decide) (by decide) hRP5.1 (by simp only [List.length_append, List.length_singleton, lst_len]; decide) (fun G3 h1 h2 h3 => by rw [lst_congr u9] at h2 h3; exact ⟨rfl, h1, h2, h3⟩)) (fun o Ga7 h => ?_) (fun E G' h => by cases h.1)
  obtain ⟨h, FX, k140, kp⟩ := h
  cases h
  have FY := FY.trans FX (fun _ q => q)
  have k157 := FX.get (by decide) k157
  refine V_aload_n rfl (by first | rfl | assumption) ?_
  refine V_aload_n rfl (by first | rfl | assumption) ?_
  refine V_getf rfl rfl rfl (by repeat (first | exact hup_eq | assumption | refine Eq.trans (hup_ne (by first | assumption | exact Ne.symm (by assumption) | decide | omega)) ?_)) (by first | rfl | assumption) ?_
  refine V_bipush (v := nI 14) rfl (by decide) ?_
  refine V_callS (M' := mX12_row) (mc := 0) (ms := 0) (bc' := 0) (bs' := 0) rfl cw_X12_267 is_X12_row rfl (Nat.le_of_ble_eq_true rfl) ⟨Nat.le_of_ble_eq_true rfl, Nat.le_of_ble_eq_true rfl⟩ ⟨Nat.le_of_ble_eq_true rfl, Nat.le_of_ble_eq_true rfl⟩ (As := [.int (nI 14)]) (c_mrow (Q := fun o G9 => o = .inl (some (.int (nI (32 * 14)))) ∧ G9 = Ga7) ⟨rfl, rfl⟩) (fun o G9 h => ?_) (fun E G' h => by cases h.1)
  obtain ⟨h, h9⟩ := h
  cases h
  rw [h9]
  clear h9
  refine V_bipush (v := nI 32) rfl (by decide) ?_
  refine V_callV (M' := mX12_sayRow) (mc := 0) (ms := 0) (bc' := 0) (bs' := 0) rfl cw_X12_324 iv_X12_sayRow (by repeat (first | exact hup_eq | assumption | refine Eq.trans (hup_ne (by first | assumption | exact Ne.symm (by assumption) | decide | omega)) ?_)) rfl rfl (Nat.le_of_ble_eq_true rfl) ⟨Nat.le_of_ble_eq_true rfl, Nat.le_of_ble_eq_true rfl⟩ ⟨Nat.le_of_ble_eq_true rfl, Nat.le_of_ble_eq_true rfl⟩ (As := [.ref 157, .int (nI (32 * 14)), .int (nI 32)]) (c_msayRow (p := [31] ++ lst ho 32 ++ lst (pub (S1.1 1)) 32) (Q := fun o Ga8 => o = .inl none ∧ FP PP2 Ga7 Ga8 ∧ Ga8.1 140 = some (MO th ta os hs9 (nI ([31] ++ lst ho 32 ++ lst (pub (S1.1 1)) 32 ++ lst pr 32).length) rs) ∧ plM ([31] ++ lst ho 32 ++ lst (pub (S1.1 1)) 32 ++ lst pr 32) Ga8) k140 kp k157 (by decide) (by decide) (by decide) hRP5.1 (by simp only [List.length_append, List.length_singleton, lst_len]; decide) (fun G3 h1 h2 h3 => by rw [lst_congr u14] at h2 h3; exact ⟨rfl, h1, h2, h3⟩)) (fun o Ga8 h => ?_) (fun E G' h => by cases h.1)
  obtain ⟨h, FX, k140, kp⟩ := h
  cases h
  have FY := FY.trans FX (fun _ q => q)
  have k157 := FX.get (by decide) k157
  have ep : [31] ++ lst ho 32 ++ lst (pub (S1.1 1)) 32 ++ lst pr 32 = 31 :: (lst ho 32 ++ lst (pub (S1.1 1)) 32 ++ lst pr 32) := by rw [List.append_assoc, List.append_assoc]; rw [List.append_assoc]; rfl
  rw [ep] at k140 kp
  obtain ⟨pl, hpl⟩ : ∃ pl, pl = 31 :: (lst ho 32 ++ lst (pub (S1.1 1)) 32 ++ lst pr 32) := ⟨_, rfl⟩
  have hpll : pl.length = 97 := by rw [hpl, List.length_cons, List.length_append, List.length_append, lst_len, lst_len, lst_len]
  rw [← hpl] at k140 kp hq
  clear ep hpl
  have hRM := hRM.pl FY kp
  refine V_aload_n rfl (by first | rfl | assumption) ?_
  refine V_iconst (v := nI 1) rfl (by decide) ?_
  refine V_callV (M' := mX12_post) (mc := 0) (ms := 0) (bc' := 0) (bs' := 0) rfl cw_X12_310 iv_X12_post (by repeat (first | exact hup_eq | assumption | refine Eq.trans (hup_ne (by first | assumption | exact Ne.symm (by assumption) | decide | omega)) ?_)) rfl rfl (Nat.le_of_ble_eq_true rfl) ⟨Nat.le_of_ble_eq_true rfl, Nat.le_of_ble_eq_true rfl⟩ ⟨Nat.le_of_ble_eq_true rfl, Nat.le_of_ble_eq_true rfl⟩ (As := [.int (nI 1)]) (c_mpost (e := 1) (p := pl) (Q := fun o Ga9 => o = .inl none ∧ FP PW Ga8 Ga9 ∧ RM T (emt T S1 1 pl) Ga9) (by decide) hqt k140 hRM kp (by omega) (by rw [hns]; omega) (fun G3 h1 h2 => ⟨rfl, h1, h2⟩)) (fun o Ga9 h => ?_) (fun E G' h => by cases h.1)
  obtain ⟨h, FX, hRM2⟩ := h
  cases h
  have k140 := FX.get (by decide) k140
  have k157 := FX.get (by decide) k157
  have FA := (FA.trans FY (fun x hx => by show _ ∨ _; omega)).trans FX (fun x hx => by show _ ∨ _; omega)
  obtain ⟨Sa, hSa⟩ : ∃ Sa, Sa = emt T S1 1 pl := ⟨_, rfl⟩
  have hRPa : rowP Sa R5 := hRP5.rw (fun j => by rw [hSa]; exact (emt_rw (by decide)).1) (by rw [hSa, (emt_rw (j := 0) (by decide)).2])
  have hnsa : nm (Sa.1 1) 0 ≤ nm (S.1 1) 0 + 1 := by rw [hSa, ← hns]; exact emt_nm
  rw [← hSa] at hRM2 hq
  clear hSa
  refine V_aload_n rfl (by first | rfl | assumption) ?_
  refine V_iconst (v := nI 1) rfl (by decide) ?_
  refine V_callV (M' := mX12_makeKeys) (mc := 0) (ms := 0) (bc' := 0) (bs' := 0) rfl cw_X12_333 iv_X12_makeKeys (by repeat (first | exact hup_eq | assumption | refine Eq.trans (hup_ne (by first | assumption | exact Ne.symm (by assumption) | decide | omega)) ?_)) rfl rfl (Nat.le_of_ble_eq_true rfl) ⟨Nat.le_of_ble_eq_true rfl, Nat.le_of_ble_eq_true rfl⟩ ⟨Nat.le_of_ble_eq_true rfl, Nat.le_of_ble_eq_true rfl⟩ (As := [.int (nI 1)]) (c_mkeys (e := 1) (sh := sh) (H := H) (Q := fun o Ga10 => o = .inl none ∧ ∃ hs' NK, FP (fun j => PK j ∨ j = 172) Ga9 Ga10 ∧ RM T (sE Sa 1 (mkS T (ses (Sa.1 1) H) sh H 65)) Ga10 ∧ Ga10.1 140 = some (MO th ta os hs' (nI pl.length) rs) ∧ Ga10.1 161 = some (YA 256 NK) ∧ (∀ j, NK j < 256) ∧ (∀ j, j < 32 → NK (128 * 1 + j) = kyH T sh H (rw9 (ses (Sa.1 1) H) 2) 67 j ∧ NK (128 * 1 + 32 + j) = kyH T sh H (rw9 (ses (Sa.1 1) H) 2) (67 + 1) j)) (by decide) k140 hRM2 k157 hRPa u11 u13 (fun G3 hs' NK h1 h2 h3 h4 h5 h6 => ⟨rfl, hs', NK, h1, h2, h3, h4, h5, h6⟩)) (fun o Ga10 h => ?_) (fun E G' h => by cases h.1)
  obtain ⟨h, hs8, NK, FX, hRM3, k140, k161, hNb, hNk⟩ := h
  cases h
  have FA := FA.trans FX (fun x hx => by show _ ∨ _; omega)
  have hcom := emt_com (T := T) (S := Sa) (e := 1) (p := [21]) (f := fun s => mkS T (ses s H) sh H 65) (by decide) f_com.1 f_com.2.1 f_com.2.2
  have hss : rw9 (ses ((emt T Sa 1 [21]).1 1) H) 2 = rw9 (ses (Sa.1 1) H) 2 := by
    have e1 : rw9 ((emt T Sa 1 [21]).1 1) = rw9 (Sa.1 1) := (emt_rw (by decide)).1
    have e2 : fl ((emt T Sa 1 [21]).1 1) 1 = fl (Sa.1 1) 1 := emt_f1
    unfold ses
    rw [e2]
    split
    · rw [e1]
    · rfl
  refine V_aload_n rfl (by first | rfl | assumption) ?_
  refine V_iconst (v := nI 1) rfl (by decide) ?_
  refine V_callV (M' := mX12_postNew) (mc := 0) (ms := 0) (bc' := 0) (bs' := 0) rfl cw_X12_336 iv_X12_postNew (by repeat (first | exact hup_eq | assumption | refine Eq.trans (hup_ne (by first | assumption | exact Ne.symm (by assumption) | decide | omega)) ?_)) rfl rfl (Nat.le_of_ble_eq_true rfl) ⟨Nat.le_of_ble_eq_true rfl, Nat.le_of_ble_eq_true rfl⟩ ⟨Nat.le_of_ble_eq_true rfl, Nat.le_of_ble_eq_true rfl⟩ (As := [.int (nI 1)]) (c_mpostNew (e := 1) (NK := NK) (k0 := kyH T sh H (rw9 (ses (Sa.1 1) H) 2) 67) (k1 := kyH T sh H (rw9 (ses (Sa.1 1) H) 2) (67 + 1)) (Q := fun o Ga11 => o = .inl none ∧ ∃ ps', FP PN Ga10 Ga11 ∧ Ga11.1 140 = some (MO th ta os hs8 ps' rs) ∧ RM T (sE (emt T (sE Sa 1 (mkS T (ses (Sa.1 1) H) sh H 65)) 1 [21]) 1 (nwS ((emt T (sE Sa 1 (mkS T (ses (Sa.1 1) H) sh H 65)) 1 [21]).1 1) (kyH T sh H (rw9 (ses (Sa.1 1) H) 2) 67) (kyH T sh H (rw9 (ses (Sa.1 1) H) 2) (67 + 1)))) Ga11) (by decide) hqt k140 hRM3 (by rw [sE_e, (f_com (T := T) (H := H) (sh := sh) (cm := 65)).2.2 (Sa.1 1) |>.2.2.2.2]; omega) k161 hNb hNk (fun G3 ps' h1 h2 h3 => ⟨rfl, ps', h1, h2, h3⟩)) (fun o Ga11 h => ?_) (fun E G' h => by cases h.1)
  obtain ⟨h, ps8, FX, k140, hRM4⟩ := h
  cases h
  have FA := FA.trans FX (fun x hx => by show _ ∨ _; omega)
  refine V_vret rfl rfl (hq _ _ _ (hFin _ hs ps FA) k140 ?_)
  rw [hcom, sE_sE, sE_e, ← hss, tnk_mk] at hRM4
  exact hRM4
end MWire5
