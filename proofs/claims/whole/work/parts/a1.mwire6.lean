section MWire6
variable {K : kK} {G : kG} {Q : kO → kG → Prop} {T : TB} {S : SG} {th ta os hs ps rs : Int32}
def eqU (f g : Nat → Nat) : Nat → Bool
  | 0 => true
  | i + 1 => eqU f g i && decide (f i = g i)
theorem eqU_iff {f g : Nat → Nat} : ∀ n, eqU f g n = true ↔ ∀ j, j < n → f j = g j
  | 0 => ⟨fun _ j hj => absurd hj (Nat.not_lt_zero j), fun _ => rfl⟩
  | n + 1 => by
    simp only [eqU, Bool.and_eq_true, decide_eq_true_eq]
    rw [eqU_iff n]
    constructor
    · rintro ⟨h1, h2⟩ j hj
      by_cases e : j = n
      · rw [e]; exact h2
      · exact h1 j (by omega)
    · intro h
      exact ⟨fun j hj => h j (by omega), h n (by omega)⟩
theorem lst_iff {f g : Nat → Nat} {n : Nat} : lst f n = lst g n ↔ ∀ j, j < n → f j = g j := ⟨lst_inj, lst_congr⟩
theorem ovw2_s {R f g : Nat → Nat} {a b i : Nat} (hab : a + 32 ≤ b) (hi : i < 32) : updN (updN (ovw (ovw R a i f) b i g) (a + i) (f i)) (b + i) (g i) = ovw (ovw R a (i + 1) f) b (i + 1) g := by
  funext j
  by_cases e1 : j = b + i
  · rw [e1, updN_eq, ovw_in (by omega)]
  · rw [updN_ne e1]
    by_cases e2 : j = a + i
    · rw [e2, updN_eq, ovw_out (by omega), ovw_in (by omega)]
    · rw [updN_ne e2]
      unfold ovw
      by_cases h1 : b ≤ j ∧ j < b + i
      · rw [if_pos h1, if_pos (by omega)]
      · by_cases h2 : a ≤ j ∧ j < a + i
        · rw [if_neg h1, if_pos h2, if_neg (by omega), if_pos (by omega)]
        · rw [if_neg h1, if_neg h2, if_neg (by omega), if_neg (by omega)]
set_option maxHeartbeats 16000000 in
theorem c_mproved {c : List Nat} {sh H pm pr : Nat → Nat} (g140 : G.1 140 = some (MO th ta os hs ps rs)) (hR : RM T S G) (hrd : rdM c G) (hc : c.length = 97) (hsh : sh = mulB (rw9 (S.1 0) 3) (sft (gD c) 33)) (hH : H = agr T (rw9 (S.1 0) 4) (rw9 (S.1 0) 5) (sft (gD c) 1) (pub (S.1 0)) (sft (gD c) 33) sh) (hpm : pm = mulB (rw9 (S.1 0) 3) (sft (gD c) 1)) (hpr : pr = prf T pm H)
    (hq : ∀ G' hs' R' b, FP PA G G' → G'.1 140 = some (MO th ta os hs' ps rs) → RM T S G' → G'.1 157 = some (YA 640 R') → rowP S R' → (∀ j, j < 32 → R' (32 * 11 + j) = sh j) → (∀ j, j < 32 → R' (32 * 13 + j) = H j) → (b = true ↔ lst (sft (gD c) 1) 32 = lst (S.2.1 1) 32 ∧ lst (sft (gD c) 65) 32 = lst pr 32) → Q (.inl (some (.int (bI b)))) G') : C K 0 0 mX12_isProved [.ref 140] G Q := by
  obtain ⟨R, g157, hRP0⟩ := id hR.2.1
  have hRP0 : rowP S R := hRP0
  obtain ⟨rb, k180, hrb, hrl⟩ := id hrd
  have hrg : ∀ j, j < 97 → rb j = gD c j := fun j hj => (gD_of hrl (by omega)).symm
  refine C_of okX12_isProved (Nat.le_of_ble_eq_true rfl) ?_
  refine V_iconst (v := 1) rfl (by decide) ?_
  refine V_istore_n rfl (by decide) ?_
  refine V_iconst (v := nI 0) rfl (by decide) ?_
  refine V_istore_n rfl (by decide) ?_
  refine V_loop 32 (fun i lc G' => lc 0 = some (.ref 140) ∧ lc 1 = some (.int (bI (eqU (sft (gD c) 1) (S.2.1 1) i))) ∧ lc 2 = some (.int (nI i)) ∧ G' = hup G 157 (YA 640 (ovw (ovw R (32 * 10) i (sft (gD c) 1)) (32 * 16) i (sft (gD c) 33)))) ?_ ?_ 0 _ _ (Nat.zero_le _) ⟨rfl, rfl, rfl, by rw [ovw_0, ovw_0, hup_same g157]⟩
  · rintro i lc G' hi ⟨l0, l1, l2, rfl⟩ ih
    have h1 := hrb (1 + i)
    have h33 := hrb (33 + i)
    have tl : ∀ b : Bool, b = eqU (sft (gD c) 1) (S.2.1 1) (i + 1) → V K 0 0 mX12_isProved 83 lc [.int (bI b)] (hup G 157 (YA 640 (ovw (ovw R (32 * 10) (i + 1) (sft (gD c) 1)) (32 * 16) (i + 1) (sft (gD c) 33)))) Q := by
      rintro b rfl
      refine V_istore_n rfl (by decide) ?_
      refine V_iincN (d := 1) rfl (by first | rfl | assumption) (by decide) (by decide) ?_
      refine V_goto rfl ?_
      exact ih _ _ ⟨l0, rfl, rfl, rfl⟩
    refine V_iload_n rfl (by first | rfl | assumption) ?_
    refine V_bipush (v := nI 32) rfl (by decide) ?_
    refine V_icmp_geN rfl (by omega) (by decide) (fun h => absurd h (by omega)) (fun _ => ?_)
    refine V_aload_n rfl (by first | rfl | assumption) ?_
    refine V_getf rfl rfl rfl (by repeat (first | exact hup_eq | assumption | refine Eq.trans (hup_ne (by first | assumption | exact Ne.symm (by assumption) | decide | omega)) ?_)) (by first | rfl | assumption) ?_
    refine V_bipush (v := nI 10) rfl (by decide) ?_
    refine V_callS (M' := mX12_row) (mc := 0) (ms := 0) (bc' := 0) (bs' := 0) rfl cw_X12_267 is_X12_row rfl (Nat.le_of_ble_eq_true rfl) ⟨Nat.le_of_ble_eq_true rfl, Nat.le_of_ble_eq_true rfl⟩ ⟨Nat.le_of_ble_eq_true rfl, Nat.le_of_ble_eq_true rfl⟩ (As := [.int (nI 10)]) (c_mrow (Q := fun o G2 => o = .inl (some (.int (nI (32 * 10)))) ∧ G2 = hup G 157 (YA 640 (ovw (ovw R (32 * 10) i (sft (gD c) 1)) (32 * 16) i (sft (gD c) 33)))) ⟨rfl, rfl⟩) (fun o G2 h => ?_) (fun E G' h => by cases h.1)
    obtain ⟨h, rfl⟩ := h
    cases h
    refine V_iload_n rfl (by first | rfl | assumption) ?_
    refine V_iaddN rfl ?_
    refine V_aload_n rfl (by first | rfl | assumption) ?_
    refine V_getf rfl rfl rfl (by repeat (first | exact hup_eq | assumption | refine Eq.trans (hup_ne (by first | assumption | exact Ne.symm (by assumption) | decide | omega)) ?_)) (by first | rfl | assumption) ?_
    refine V_iconst (v := nI 1) rfl (by decide) ?_
    refine V_iload_n rfl (by first | rfl | assumption) ?_
    refine V_iaddN rfl ?_
    refine V_baldB rfl (by repeat (first | exact hup_eq | assumption | refine Eq.trans (hup_ne (by first | assumption | exact Ne.symm (by assumption) | decide | omega)) ?_)) rfl (by first | omega | decide) (by first | omega | decide) ?_
    refine V_bastB rfl (by repeat (first | exact hup_eq | assumption | refine Eq.trans (hup_ne (by first | assumption | exact Ne.symm (by assumption) | decide | omega)) ?_)) rfl (by first | omega | decide) (by first | omega | decide) (by first | assumption | solve_by_elim | exact Nat.mod_lt _ (by decide) | omega) ?_
    refine V_aload_n rfl (by first | rfl | assumption) ?_
    refine V_getf rfl rfl rfl (by repeat (first | exact hup_eq | assumption | refine Eq.trans (hup_ne (by first | assumption | exact Ne.symm (by assumption) | decide | omega)) ?_)) (by first | rfl | assumption) ?_
    refine V_bipush (v := nI 16) rfl (by decide) ?_
    rw [hup_hup]
    refine V_callS (M' := mX12_row) (mc := 0) (ms := 0) (bc' := 0) (bs' := 0) rfl cw_X12_267 is_X12_row rfl (Nat.le_of_ble_eq_true rfl) ⟨Nat.le_of_ble_eq_true rfl, Nat.le_of_ble_eq_true rfl⟩ ⟨Nat.le_of_ble_eq_true rfl, Nat.le_of_ble_eq_true rfl⟩ (As := [.int (nI 16)]) (c_mrow (Q := fun o G2 => o = .inl (some (.int (nI (32 * 16)))) ∧ G2 = hup G 157 (YA 640 (updN (ovw (ovw R (32 * 10) i (sft (gD c) 1)) (32 * 16) i (sft (gD c) 33)) (32 * 10 + i) (rb (1 + i))))) ⟨rfl, rfl⟩) (fun o G2 h => ?_) (fun E G' h => by cases h.1)
    obtain ⟨h, rfl⟩ := h
    cases h
    refine V_iload_n rfl (by first | rfl | assumption) ?_
    refine V_iaddN rfl ?_
    refine V_aload_n rfl (by first | rfl | assumption) ?_
    refine V_getf rfl rfl rfl (by repeat (first | exact hup_eq | assumption | refine Eq.trans (hup_ne (by first | assumption | exact Ne.symm (by assumption) | decide | omega)) ?_)) (by first | rfl | assumption) ?_
    refine V_bipush (v := nI 33) rfl (by decide) ?_
    refine V_iload_n rfl (by first | rfl | assumption) ?_
    refine V_iaddN rfl ?_
    refine V_baldB rfl (by repeat (first | exact hup_eq | assumption | refine Eq.trans (hup_ne (by first | assumption | exact Ne.symm (by assumption) | decide | omega)) ?_)) rfl (by first | omega | decide) (by first | omega | decide) ?_
    refine V_bastB rfl (by repeat (first | exact hup_eq | assumption | refine Eq.trans (hup_ne (by first | assumption | exact Ne.symm (by assumption) | decide | omega)) ?_)) rfl (by first | omega | decide) (by first | omega | decide) (by first | assumption | solve_by_elim | exact Nat.mod_lt _ (by decide) | omega) ?_
    rw [hup_hup, hrg (1 + i) (by omega), hrg (33 + i) (by omega)]
    have e2 := ovw2_s (R := R) (f := sft (gD c) 1) (g := sft (gD c) 33) (a := 32 * 10) (b := 32 * 16) (i := i) (by decide) hi
    rw [show updN (updN (ovw (ovw R (32 * 10) i (sft (gD c) 1)) (32 * 16) i (sft (gD c) 33)) (32 * 10 + i) (gD c (1 + i))) (32 * 16 + i) (gD c (33 + i)) = ovw (ovw R (32 * 10) (i + 1) (sft (gD c) 1)) (32 * 16) (i + 1) (sft (gD c) 33) from e2]
    refine V_iload_n rfl (by assumption) ?_
    refine V_if_eqB rfl (fun z => ?_) (fun z => ?_)
    · refine V_iconst (v := bI false) rfl (by decide) ?_
      refine tl false ?_
      simp only [eqU]
      rw [z]; rfl
    · refine V_aload_n rfl (by first | rfl | assumption) ?_
      refine V_getf rfl rfl rfl (by repeat (first | exact hup_eq | assumption | refine Eq.trans (hup_ne (by first | assumption | exact Ne.symm (by assumption) | decide | omega)) ?_)) (by first | rfl | assumption) ?_
      refine V_iconst (v := nI 1) rfl (by decide) ?_
      refine V_iload_n rfl (by first | rfl | assumption) ?_
      refine V_iaddN rfl ?_
      refine V_baldB rfl (by repeat (first | exact hup_eq | assumption | refine Eq.trans (hup_ne (by first | assumption | exact Ne.symm (by assumption) | decide | omega)) ?_)) rfl (by first | omega | decide) (by first | omega | decide) ?_
      refine V_aload_n rfl (by first | rfl | assumption) ?_
      refine V_getf rfl rfl rfl (by repeat (first | exact hup_eq | assumption | refine Eq.trans (hup_ne (by first | assumption | exact Ne.symm (by assumption) | decide | omega)) ?_)) (by first | rfl | assumption) ?_
      refine V_bipush (v := nI 7) rfl (by decide) ?_
      refine V_callS (M' := mX12_row) (mc := 0) (ms := 0) (bc' := 0) (bs' := 0) rfl cw_X12_267 is_X12_row rfl (Nat.le_of_ble_eq_true rfl) ⟨Nat.le_of_ble_eq_true rfl, Nat.le_of_ble_eq_true rfl⟩ ⟨Nat.le_of_ble_eq_true rfl, Nat.le_of_ble_eq_true rfl⟩ (As := [.int (nI 7)]) (c_mrow (Q := fun o G2 => o = .inl (some (.int (nI (32 * 7)))) ∧ G2 = hup G 157 (YA 640 (ovw (ovw R (32 * 10) (i + 1) (sft (gD c) 1)) (32 * 16) (i + 1) (sft (gD c) 33)))) ⟨rfl, rfl⟩) (fun o G2 h => ?_) (fun E G' h => by cases h.1)
      obtain ⟨h, h9⟩ := h
      cases h
      rw [h9]
      clear h9
      refine V_iload_n rfl (by first | rfl | assumption) ?_
      refine V_iaddN rfl ?_
      refine V_baldB rfl (by repeat (first | exact hup_eq | assumption | refine Eq.trans (hup_ne (by first | assumption | exact Ne.symm (by assumption) | decide | omega)) ?_)) rfl (by first | omega | decide) (by first | omega | decide) ?_
      rw [ovw_out (by omega), ovw_out (by omega), show R (32 * 7 + i) = S.2.1 1 i from (hRP0.2 i hi).2.2.1, hrg (1 + i) (by omega)]
      have hb7 : S.2.1 1 i < 256 := by rw [← (hRP0.2 i hi).2.2.1]; exact hRP0.1 _
      have hb1 : gD c (1 + i) < 256 := by rw [← hrg (1 + i) (by omega)]; exact h1
      refine V_icmp_ne rfl (fun z2 => ?_) (fun z2 => ?_)
      · refine V_iconst (v := bI false) rfl (by decide) ?_
        refine tl false ?_
        simp only [eqU]
        rw [decide_eq_false (p := sft (gD c) 1 i = S.2.1 1 i) (fun q => z2 ((bB_inj hb1 hb7).mpr q)), Bool.and_false]
      · refine V_iconst (v := bI true) rfl (by decide) ?_
        refine V_goto rfl ?_
        refine tl true ?_
        simp only [eqU]
        rw [decide_eq_true (p := sft (gD c) 1 i = S.2.1 1 i) ((bB_inj hb1 hb7).mp z2), z]
        rfl
  rintro lc G' ⟨l0, l1, l2, rfl⟩
  refine V_iload_n rfl (by first | rfl | assumption) ?_
  refine V_bipush (v := nI 32) rfl (by decide) ?_
  refine V_icmp_geN rfl (by decide) (by decide) (fun _ => ?_) (fun h => absurd (Nat.le_refl _) h)
  obtain ⟨b1, hb1⟩ : ∃ b1, b1 = eqU (sft (gD c) 1) (S.2.1 1) 32 := ⟨_, rfl⟩
  rw [← hb1] at l1
  have hcb1 : ∀ j, j < 32 → sft (gD c) 1 j < 256 := fun j hj => by unfold sft; rw [← hrg (1 + j) (by omega)]; exact hrb _
  have hcb33 : ∀ j, j < 32 → sft (gD c) 33 j < 256 := fun j hj => by unfold sft; rw [← hrg (33 + j) (by omega)]; exact hrb _
  obtain ⟨R1, hR1⟩ : ∃ R1, R1 = ovw (ovw R (32 * 10) 32 (sft (gD c) 1)) (32 * 16) 32 (sft (gD c) 33) := ⟨_, rfl⟩
  have hRP : rowP S R1 := by rw [hR1]; exact (hRP0.sc (by decide) hcb1).sc (by decide) hcb33
  rw [← hR1]
  have hRM : RM T S (hup G 157 (YA 640 R1)) := hR.sr (hR.1.fp (fun j hj => hup_ne (by omega))) ⟨_, hup_eq, hRP⟩ (fun j a b => hup_ne (by omega))
  obtain ⟨Gx, hGx⟩ : ∃ Gx, Gx = hup G 157 (YA 640 R1) := ⟨_, rfl⟩
  rw [← hGx] at hRM ⊢
  have FC : FP PC G Gx := by rw [hGx]; exact FP.rf.hup (by decide)
  have k157 : Gx.1 157 = some (YA 640 R1) := by rw [hGx, hup_eq]
  clear hGx
  have k140 := FC.get (by decide) g140
  have hrd := hrd.fp (FC.2 180 (by decide))
  obtain ⟨pb, hpb⟩ : ∃ pb, pb = mulB (rw9 (S.1 0) 3) nine := ⟨_, rfl⟩
  have hpb2 : pub (S.1 0) = pb := by rw [hpb]; rfl
  rw [hpb2] at hH
  refine V_aload_n rfl (by first | rfl | assumption) ?_
  refine V_aload_n rfl (by first | rfl | assumption) ?_
  refine V_getf rfl rfl rfl (by repeat (first | exact hup_eq | assumption | refine Eq.trans (hup_ne (by first | assumption | exact Ne.symm (by assumption) | decide | omega)) ?_)) (by first | rfl | assumption) ?_
  refine V_iconst (v := nI 2) rfl (by decide) ?_
  refine V_callS (M' := mX12_row) (mc := 0) (ms := 0) (bc' := 0) (bs' := 0) rfl cw_X12_267 is_X12_row rfl (Nat.le_of_ble_eq_true rfl) ⟨Nat.le_of_ble_eq_true rfl, Nat.le_of_ble_eq_true rfl⟩ ⟨Nat.le_of_ble_eq_true rfl, Nat.le_of_ble_eq_true rfl⟩ (As := [.int (nI 2)]) (c_mrow (Q := fun o G9 => o = .inl (some (.int (nI (32 * 2)))) ∧ G9 = Gx) ⟨rfl, rfl⟩) (fun o G9 h => ?_) (fun E G' h => by cases h.1)
  obtain ⟨h, h9⟩ := h
  cases h
  rw [h9]
  clear h9
  refine V_aload_n rfl (by first | rfl | assumption) ?_
  refine V_getf rfl rfl rfl (by repeat (first | exact hup_eq | assumption | refine Eq.trans (hup_ne (by first | assumption | exact Ne.symm (by assumption) | decide | omega)) ?_)) (by first | rfl | assumption) ?_
  refine V_bipush (v := nI 8) rfl (by decide) ?_
  refine V_callS (M' := mX12_row) (mc := 0) (ms := 0) (bc' := 0) (bs' := 0) rfl cw_X12_267 is_X12_row rfl (Nat.le_of_ble_eq_true rfl) ⟨Nat.le_of_ble_eq_true rfl, Nat.le_of_ble_eq_true rfl⟩ ⟨Nat.le_of_ble_eq_true rfl, Nat.le_of_ble_eq_true rfl⟩ (As := [.int (nI 8)]) (c_mrow (Q := fun o G9 => o = .inl (some (.int (nI (32 * 8)))) ∧ G9 = Gx) ⟨rfl, rfl⟩) (fun o G9 h => ?_) (fun E G' h => by cases h.1)
  obtain ⟨h, h9⟩ := h
  cases h
  rw [h9]
  clear h9
  refine V_aload_n rfl (by first | rfl | assumption) ?_
  refine V_getf rfl rfl rfl (by repeat (first | exact hup_eq | assumption | refine Eq.trans (hup_ne (by first | assumption | exact Ne.symm (by assumption) | decide | omega)) ?_)) (by first | rfl | assumption) ?_
  refine V_bipush (v := nI 9) rfl (by decide) ?_
  refine V_callS (M' := mX12_row) (mc := 0) (ms := 0) (bc' := 0) (bs' := 0) rfl cw_X12_267 is_X12_row rfl (Nat.le_of_ble_eq_true rfl) ⟨Nat.le_of_ble_eq_true rfl, Nat.le_of_ble_eq_true rfl⟩ ⟨Nat.le_of_ble_eq_true rfl, Nat.le_of_ble_eq_true rfl⟩ (As := [.int (nI 9)]) (c_mrow (Q := fun o G9 => o = .inl (some (.int (nI (32 * 9)))) ∧ G9 = Gx) ⟨rfl, rfl⟩) (fun o G9 h => ?_) (fun E G' h => by cases h.1)
  obtain ⟨h, h9⟩ := h
  cases h
  rw [h9]
  clear h9
  refine V_callV (M' := mX12_pointTimes) (mc := 0) (ms := 0) (bc' := 0) (bs' := 0) rfl cw_X12_270 iv_X12_pointTimes (by repeat (first | exact hup_eq | assumption | refine Eq.trans (hup_ne (by first | assumption | exact Ne.symm (by assumption) | decide | omega)) ?_)) rfl rfl (Nat.le_of_ble_eq_true rfl) ⟨Nat.le_of_ble_eq_true rfl, Nat.le_of_ble_eq_true rfl⟩ ⟨Nat.le_of_ble_eq_true rfl, Nat.le_of_ble_eq_true rfl⟩ (As := [.ref 157, .int (nI (32 * 2)), .ref 157, .int (nI (32 * 8)), .ref 157, .int (nI (32 * 9))]) (c_mpoint (Q := fun o Ga1 => o = .inl none ∧ FP PC Gx Ga1 ∧ (∃ D, crM D Ga1) ∧ Ga1.1 157 = some (YA 640 (ovw R1 (32 * 9) 32 (mulB (sft R1 (32 * 2)) (sft R1 (32 * 8)))))) k140 hRM.1.1 k157 k157 k157 (by decide) (by decide) (by decide) (by decide) (by decide) (by decide) hRP.1 hRP.1 (fun G3 h1 h2 h3 => ⟨rfl, h1, h2, h3⟩)) (fun o Ga1 h => ?_) (fun E G' h => by cases h.1)
  obtain ⟨h, FX, hD, k157⟩ := h
  cases h
  have em : mulB (sft R1 (32 * 2)) (sft R1 (32 * 8)) = pb := by rw [hpb]; exact mulB_congr (fun j hj => ((hRP.2 j hj).1 0 (by decide)).2.1) (fun j hj => (hRP.2 j hj).2.2.2)
  rw [em] at k157
  have hX := hRM.mul hRP FX hD k157 (by decide) (fun j _ => by rw [hpb]; exact mulB_lt _ _ j)
  clear em hRM hRP
  have hRM := hX.1
  have hRP := hX.2
  clear hX hD
  have k140 := FX.get (by decide) k140
  have hrd := hrd.fp (FX.2 180 (by decide))
  obtain ⟨R2, hR2⟩ : ∃ R2, R2 = ovw R1 (32 * 9) 32 (pb) := ⟨_, rfl⟩
  rw [← hR2] at k157 hRP
  have FC := FC.trans FX (fun _ q => q)
  have r16 : ∀ j, j < 32 → R2 (32 * 16 + j) = sft (gD c) 33 j := fun j hj => by rw [hR2, ovw_out (by omega), hR1, ovw_in hj]
  have r10 : ∀ j, j < 32 → R2 (32 * 10 + j) = sft (gD c) 1 j := fun j hj => by rw [hR2, ovw_out (by omega), hR1, ovw_out (by omega), ovw_in hj]
  refine V_aload_n rfl (by first | rfl | assumption) ?_
  refine V_aload_n rfl (by first | rfl | assumption) ?_
  refine V_getf rfl rfl rfl (by repeat (first | exact hup_eq | assumption | refine Eq.trans (hup_ne (by first | assumption | exact Ne.symm (by assumption) | decide | omega)) ?_)) (by first | rfl | assumption) ?_
  refine V_iconst (v := nI 2) rfl (by decide) ?_
  refine V_callS (M' := mX12_row) (mc := 0) (ms := 0) (bc' := 0) (bs' := 0) rfl cw_X12_267 is_X12_row rfl (Nat.le_of_ble_eq_true rfl) ⟨Nat.le_of_ble_eq_true rfl, Nat.le_of_ble_eq_true rfl⟩ ⟨Nat.le_of_ble_eq_true rfl, Nat.le_of_ble_eq_true rfl⟩ (As := [.int (nI 2)]) (c_mrow (Q := fun o G9 => o = .inl (some (.int (nI (32 * 2)))) ∧ G9 = Ga1) ⟨rfl, rfl⟩) (fun o G9 h => ?_) (fun E G' h => by cases h.1)
  obtain ⟨h, h9⟩ := h
  cases h
  rw [h9]
  clear h9
  refine V_aload_n rfl (by first | rfl | assumption) ?_
  refine V_getf rfl rfl rfl (by repeat (first | exact hup_eq | assumption | refine Eq.trans (hup_ne (by first | assumption | exact Ne.symm (by assumption) | decide | omega)) ?_)) (by first | rfl | assumption) ?_
  refine V_bipush (v := nI 16) rfl (by decide) ?_
  refine V_callS (M' := mX12_row) (mc := 0) (ms := 0) (bc' := 0) (bs' := 0) rfl cw_X12_267 is_X12_row rfl (Nat.le_of_ble_eq_true rfl) ⟨Nat.le_of_ble_eq_true rfl, Nat.le_of_ble_eq_true rfl⟩ ⟨Nat.le_of_ble_eq_true rfl, Nat.le_of_ble_eq_true rfl⟩ (As := [.int (nI 16)]) (c_mrow (Q := fun o G9 => o = .inl (some (.int (nI (32 * 16)))) ∧ G9 = Ga1) ⟨rfl, rfl⟩) (fun o G9 h => ?_) (fun E G' h => by cases h.1)
  obtain ⟨h, h9⟩ := h
  cases h
  rw [h9]
  clear h9
  refine V_aload_n rfl (by first | rfl | assumption) ?_
  refine V_getf rfl rfl rfl (by repeat (first | exact hup_eq | assumption | refine Eq.trans (hup_ne (by first | assumption | exact Ne.symm (by assumption) | decide | omega)) ?_)) (by first | rfl | assumption) ?_
  refine V_bipush (v := nI 11) rfl (by decide) ?_
  refine V_callS (M' := mX12_row) (mc := 0) (ms := 0) (bc' := 0) (bs' := 0) rfl cw_X12_267 is_X12_row rfl (Nat.le_of_ble_eq_true rfl) ⟨Nat.le_of_ble_eq_true rfl, Nat.le_of_ble_eq_true rfl⟩ ⟨Nat.le_of_ble_eq_true rfl, Nat.le_of_ble_eq_true rfl⟩ (As := [.int (nI 11)]) (c_mrow (Q := fun o G9 => o = .inl (some (.int (nI (32 * 11)))) ∧ G9 = Ga1) ⟨rfl, rfl⟩) (fun o G9 h => ?_) (fun E G' h => by cases h.1)
  obtain ⟨h, h9⟩ := h
  cases h
  rw [h9]
  clear h9
  refine V_callV (M' := mX12_pointTimes) (mc := 0) (ms := 0) (bc' := 0) (bs' := 0) rfl cw_X12_270 iv_X12_pointTimes (by repeat (first | exact hup_eq | assumption | refine Eq.trans (hup_ne (by first | assumption | exact Ne.symm (by assumption) | decide | omega)) ?_)) rfl rfl (Nat.le_of_ble_eq_true rfl) ⟨Nat.le_of_ble_eq_true rfl, Nat.le_of_ble_eq_true rfl⟩ ⟨Nat.le_of_ble_eq_true rfl, Nat.le_of_ble_eq_true rfl⟩ (As := [.ref 157, .int (nI (32 * 2)), .ref 157, .int (nI (32 * 16)), .ref 157, .int (nI (32 * 11))]) (c_mpoint (Q := fun o Ga2 => o = .inl none ∧ FP PC Ga1 Ga2 ∧ (∃ D, crM D Ga2) ∧ Ga2.1 157 = some (YA 640 (ovw R2 (32 * 11) 32 (mulB (sft R2 (32 * 2)) (sft R2 (32 * 16)))))) k140 hRM.1.1 k157 k157 k157 (by decide) (by decide) (by decide) (by decide) (by decide) (by decide) hRP.1 hRP.1 (fun G3 h1 h2 h3 => ⟨rfl, h1, h2, h3⟩)) (fun o Ga2 h => ?_) (fun E G' h => by cases h.1)
  obtain ⟨h, FX, hD, k157⟩ := h
  cases h
  have em : mulB (sft R2 (32 * 2)) (sft R2 (32 * 16)) = sh := by rw [hsh]; exact mulB_congr (fun j hj => ((hRP.2 j hj).1 0 (by decide)).2.1) (fun j hj => r16 j hj)
  rw [em] at k157
  have hX := hRM.mul hRP FX hD k157 (by decide) (fun j _ => by rw [hsh]; exact mulB_lt _ _ j)
  clear em hRM hRP
  have hRM := hX.1
  have hRP := hX.2
  clear hX hD
  have k140 := FX.get (by decide) k140
  have hrd := hrd.fp (FX.2 180 (by decide))
  obtain ⟨R3, hR3⟩ : ∃ R3, R3 = ovw R2 (32 * 11) 32 (sh) := ⟨_, rfl⟩
  rw [← hR3] at k157 hRP
  have FC := FC.trans FX (fun _ q => q)
  have r16 : ∀ j, j < 32 → R3 (32 * 16 + j) = sft (gD c) 33 j := fun j hj => by rw [hR3, ovw_out (by omega)]; exact r16 j hj
  have r10 : ∀ j, j < 32 → R3 (32 * 10 + j) = sft (gD c) 1 j := fun j hj => by rw [hR3, ovw_out (by omega)]; exact r10 j hj
  refine V_aload_n rfl (by first | rfl | assumption) ?_
  refine V_aload_n rfl (by first | rfl | assumption) ?_
  refine V_getf rfl rfl rfl (by repeat (first | exact hup_eq | assumption | refine Eq.trans (hup_ne (by first | assumption | exact Ne.symm (by assumption) | decide | omega)) ?_)) (by first | rfl | assumption) ?_
  refine V_iconst (v := nI 2) rfl (by decide) ?_
  refine V_callS (M' := mX12_row) (mc := 0) (ms := 0) (bc' := 0) (bs' := 0) rfl cw_X12_267 is_X12_row rfl (Nat.le_of_ble_eq_true rfl) ⟨Nat.le_of_ble_eq_true rfl, Nat.le_of_ble_eq_true rfl⟩ ⟨Nat.le_of_ble_eq_true rfl, Nat.le_of_ble_eq_true rfl⟩ (As := [.int (nI 2)]) (c_mrow (Q := fun o G9 => o = .inl (some (.int (nI (32 * 2)))) ∧ G9 = Ga2) ⟨rfl, rfl⟩) (fun o G9 h => ?_) (fun E G' h => by cases h.1)
  obtain ⟨h, h9⟩ := h
  cases h
  rw [h9]
  clear h9
  refine V_aload_n rfl (by first | rfl | assumption) ?_
  refine V_getf rfl rfl rfl (by repeat (first | exact hup_eq | assumption | refine Eq.trans (hup_ne (by first | assumption | exact Ne.symm (by assumption) | decide | omega)) ?_)) (by first | rfl | assumption) ?_
  refine V_bipush (v := nI 10) rfl (by decide) ?_
  refine V_callS (M' := mX12_row) (mc := 0) (ms := 0) (bc' := 0) (bs' := 0) rfl cw_X12_267 is_X12_row rfl (Nat.le_of_ble_eq_true rfl) ⟨Nat.le_of_ble_eq_true rfl, Nat.le_of_ble_eq_true rfl⟩ ⟨Nat.le_of_ble_eq_true rfl, Nat.le_of_ble_eq_true rfl⟩ (As := [.int (nI 10)]) (c_mrow (Q := fun o G9 => o = .inl (some (.int (nI (32 * 10)))) ∧ G9 = Ga2) ⟨rfl, rfl⟩) (fun o G9 h => ?_) (fun E G' h => by cases h.1)
  obtain ⟨h, h9⟩ := h
  cases h
  rw [h9]
  clear h9
  refine V_aload_n rfl (by first | rfl | assumption) ?_
  refine V_getf rfl rfl rfl (by repeat (first | exact hup_eq | assumption | refine Eq.trans (hup_ne (by first | assumption | exact Ne.symm (by assumption) | decide | omega)) ?_)) (by first | rfl | assumption) ?_
  refine V_bipush (v := nI 12) rfl (by decide) ?_
  refine V_callS (M' := mX12_row) (mc := 0) (ms := 0) (bc' := 0) (bs' := 0) rfl cw_X12_267 is_X12_row rfl (Nat.le_of_ble_eq_true rfl) ⟨Nat.le_of_ble_eq_true rfl, Nat.le_of_ble_eq_true rfl⟩ ⟨Nat.le_of_ble_eq_true rfl, Nat.le_of_ble_eq_true rfl⟩ (As := [.int (nI 12)]) (c_mrow (Q := fun o G9 => o = .inl (some (.int (nI (32 * 12)))) ∧ G9 = Ga2) ⟨rfl, rfl⟩) (fun o G9 h => ?_) (fun E G' h => by cases h.1)
  obtain ⟨h, h9⟩ := h
  cases h
  rw [h9]
  clear h9
  refine V_callV (M' := mX12_pointTimes) (mc := 0) (ms := 0) (bc' := 0) (bs' := 0) rfl cw_X12_270 iv_X12_pointTimes (by repeat (first | exact hup_eq | assumption | refine Eq.trans (hup_ne (by first | assumption | exact Ne.symm (by assumption) | decide | omega)) ?_)) rfl rfl (Nat.le_of_ble_eq_true rfl) ⟨Nat.le_of_ble_eq_true rfl, Nat.le_of_ble_eq_true rfl⟩ ⟨Nat.le_of_ble_eq_true rfl, Nat.le_of_ble_eq_true rfl⟩ (As := [.ref 157, .int (nI (32 * 2)), .ref 157, .int (nI (32 * 10)), .ref 157, .int (nI (32 * 12))]) (c_mpoint (Q := fun o Ga3 => o = .inl none ∧ FP PC Ga2 Ga3 ∧ (∃ D, crM D Ga3) ∧ Ga3.1 157 = some (YA 640 (ovw R3 (32 * 12) 32 (mulB (sft R3 (32 * 2)) (sft R3 (32 * 10)))))) k140 hRM.1.1 k157 k157 k157 (by decide) (by decide) (by decide) (by decide) (by decide) (by decide) hRP.1 hRP.1 (fun G3 h1 h2 h3 => ⟨rfl, h1, h2, h3⟩)) (fun o Ga3 h => ?_) (fun E G' h => by cases h.1)
  obtain ⟨h, FX, hD, k157⟩ := h
  cases h
  have em : mulB (sft R3 (32 * 2)) (sft R3 (32 * 10)) = pm := by rw [hpm]; exact mulB_congr (fun j hj => ((hRP.2 j hj).1 0 (by decide)).2.1) (fun j hj => r10 j hj)
  rw [em] at k157
  have hX := hRM.mul hRP FX hD k157 (by decide) (fun j _ => by rw [hpm]; exact mulB_lt _ _ j)
  clear em hRM hRP
  have hRM := hX.1
  have hRP := hX.2
  clear hX hD
  have k140 := FX.get (by decide) k140
  have hrd := hrd.fp (FX.2 180 (by decide))
  obtain ⟨R4, hR4⟩ : ∃ R4, R4 = ovw R3 (32 * 12) 32 (pm) := ⟨_, rfl⟩
  rw [← hR4] at k157 hRP
  have FC := FC.trans FX (fun _ q => q)
  have v16 : ∀ j, j < 32 → sft R4 (32 * 16) j = sft (gD c) 33 j := fun j hj => by unfold sft; rw [hR4, ovw_out (by omega)]; exact r16 j hj
  have v10 : ∀ j, j < 32 → sft R4 (32 * 10) j = sft (gD c) 1 j := fun j hj => by unfold sft; rw [hR4, ovw_out (by omega)]; exact r10 j hj
  have v12 : ∀ j, j < 32 → sft R4 (32 * 12) j = pm j := fun j hj => by unfold sft; rw [hR4, ovw_in hj]
  have v11 : ∀ j, j < 32 → sft R4 (32 * 11) j = sh j := fun j hj => by unfold sft; rw [hR4, ovw_out (by omega), hR3, ovw_in hj]
  have v9 : ∀ j, j < 32 → sft R4 (32 * 9) j = pb j := fun j hj => by unfold sft; rw [hR4, ovw_out (by omega), hR3, ovw_out (by omega), hR2, ovw_in hj]
  have eH : agr T (rw9 (S.1 0) 4) (rw9 (S.1 0) 5) (sft R4 (32 * 10)) (sft R4 (32 * 9)) (sft R4 (32 * 16)) (sft R4 (32 * 11)) = H := by
    rw [hH]
    unfold agr
    rw [lst_congr v10, lst_congr v16, lst_congr v9, lst_congr v11]
  have eP : prf T (sft R4 (32 * 12)) H = pr := by rw [hpr]; unfold prf; rw [lst_congr v12]
  have hHb : ∀ j, H j < 256 := fun j => by rw [hH]; exact HSH_lt _ _ _ j
  have hprb : ∀ j, pr j < 256 := fun j => by rw [hpr]; exact HSH_lt _ _ _ j
  clear hR1 hR2 hR3 hR4 hsh hpm hH hpr
  refine V_aload_n rfl (by first | rfl | assumption) ?_
  refine V_iconst (v := nI 0) rfl (by decide) ?_
  refine V_bipush (v := nI 9) rfl (by decide) ?_
  refine V_bipush (v := nI 16) rfl (by decide) ?_
  refine V_callV (M' := mX12_digest) (mc := 0) (ms := 0) (bc' := 0) (bs' := 0) rfl cw_X12_330 iv_X12_digest (by repeat (first | exact hup_eq | assumption | refine Eq.trans (hup_ne (by first | assumption | exact Ne.symm (by assumption) | decide | omega)) ?_)) rfl rfl (Nat.le_of_ble_eq_true rfl) ⟨Nat.le_of_ble_eq_true rfl, Nat.le_of_ble_eq_true rfl⟩ ⟨Nat.le_of_ble_eq_true rfl, Nat.le_of_ble_eq_true rfl⟩ (As := [.int (nI 0), .int (nI 9), .int (nI 16)]) (c_mdigest0 (R := R4) (Q := fun o Ga4 => o = .inl none ∧ ∃ hs', FP PD Ga3 Ga4 ∧ RM T S Ga4 ∧ Ga4.1 140 = some (MO th ta os hs' ps rs) ∧ Ga4.1 157 = some (YA 640 (ovw (ovw R4 (32 * 13) 32 H) (32 * 14) 32 pr))) k140 hRM k157 hRP (fun G3 hs' h1 h2 h3 h4 => by rw [eH, eP] at h4; exact ⟨rfl, hs', h1, h2, h3, h4⟩)) (fun o Ga4 h => ?_) (fun E G' h => by cases h.1)
  obtain ⟨h, hs9, FX, hRM9, j140, j157⟩ := h
  cases h
  have FA : FP PA G Ga4 := (FC.sub (fun x hx => by show _ ∨ _; omega)).trans FX (fun x hx => by show _ ∨ _; omega)
  obtain ⟨R5, hR5⟩ : ∃ R5, R5 = ovw (ovw R4 (32 * 13) 32 H) (32 * 14) 32 pr := ⟨_, rfl⟩
  have hRP5 : rowP S R5 := by rw [hR5]; exact (hRP.sc (by decide) (fun j _ => hHb j)).sc (by decide) (fun j _ => hprb j)
  rw [← hR5] at j157
  have u14 : ∀ j, j < 32 → R5 (32 * 14 + j) = pr j := fun j hj => by rw [hR5, ovw_in hj]
  have u13 : ∀ j, j < 32 → R5 (32 * 13 + j) = H j := fun j hj => by rw [hR5, ovw_out (by omega), ovw_in hj]
  have u11 : ∀ j, j < 32 → R5 (32 * 11 + j) = sh j := fun j hj => by rw [hR5, ovw_out (by omega), ovw_out (by omega)]; exact v11 j hj
  obtain ⟨rb2, m180, hrb2, hrl2⟩ := id (hrd.fp (FX.2 180 (by decide)))
  have hrg2 : ∀ j, j < 97 → rb2 j = gD c j := fun j hj => (gD_of hrl2 (by omega)).symm
  clear hR5 v16 v12 v11 v10 v9 eH eP hRP FC FX hRM k140 k157
  refine V_iconst (v := nI 0) rfl (by decide) ?_
  refine V_istore_n rfl (by decide) ?_
  refine V_loop 32 (fun i lc G7 => lc 0 = some (.ref 140) ∧ lc 1 = some (.int (bI (b1 && eqU (sft (gD c) 65) pr i))) ∧ lc 2 = some (.int (nI i)) ∧ G7 = Ga4) ?_ ?_ 0 _ _ (Nat.zero_le _) ⟨l0, by rw [show (b1 && eqU (sft (gD c) 65) pr 0) = b1 from Bool.and_true b1]; exact l1, rfl, rfl⟩
  · rintro i lc G7 hi ⟨l0, l1, l2, rfl⟩ ih
    have tl : ∀ b : Bool, b = (b1 && eqU (sft (gD c) 65) pr (i + 1)) → V K 0 0 mX12_isProved 230 lc [.int (bI b)] G7 Q := by
      rintro b rfl
      refine V_istore_n rfl (by decide) ?_
      refine V_iincN (d := 1) rfl (by first | rfl | assumption) (by decide) (by decide) ?_
      refine V_goto rfl ?_
      exact ih _ _ ⟨l0, rfl, rfl, rfl⟩
    refine V_iload_n rfl (by first | rfl | assumption) ?_
    refine V_bipush (v := nI 32) rfl (by decide) ?_
    refine V_icmp_geN rfl (by omega) (by decide) (fun h => absurd h (by omega)) (fun _ => ?_)
    refine V_iload_n rfl (by assumption) ?_
    refine V_if_eqB rfl (fun z => ?_) (fun z => ?_)
    · refine V_iconst (v := bI false) rfl (by decide) ?_
      refine tl false ?_
      simp only [eqU]
      rw [← Bool.and_assoc, z]; rfl
    · refine V_aload_n rfl (by first | rfl | assumption) ?_
      refine V_getf rfl rfl rfl (by repeat (first | exact hup_eq | assumption | refine Eq.trans (hup_ne (by first | assumption | exact Ne.symm (by assumption) | decide | omega)) ?_)) (by first | rfl | assumption) ?_
      refine V_bipush (v := nI 14) rfl (by decide) ?_
      refine V_callS (M' := mX12_row) (mc := 0) (ms := 0) (bc' := 0) (bs' := 0) rfl cw_X12_267 is_X12_row rfl (Nat.le_of_ble_eq_true rfl) ⟨Nat.le_of_ble_eq_true rfl, Nat.le_of_ble_eq_true rfl⟩ ⟨Nat.le_of_ble_eq_true rfl, Nat.le_of_ble_eq_true rfl⟩ (As := [.int (nI 14)]) (c_mrow (Q := fun o G2 => o = .inl (some (.int (nI (32 * 14)))) ∧ G2 = G7) ⟨rfl, rfl⟩) (fun o G2 h => ?_) (fun E G' h => by cases h.1)
      obtain ⟨h, h9⟩ := h
      cases h
      rw [h9]
      clear h9
      have h65 := hrb2 (65 + i)
      refine V_iload_n rfl (by first | rfl | assumption) ?_
      refine V_iaddN rfl ?_
      refine V_baldB rfl (by repeat (first | exact hup_eq | assumption | refine Eq.trans (hup_ne (by first | assumption | exact Ne.symm (by assumption) | decide | omega)) ?_)) rfl (by first | omega | decide) (by first | omega | decide) ?_
      refine V_aload_n rfl (by first | rfl | assumption) ?_
      refine V_getf rfl rfl rfl (by repeat (first | exact hup_eq | assumption | refine Eq.trans (hup_ne (by first | assumption | exact Ne.symm (by assumption) | decide | omega)) ?_)) (by first | rfl | assumption) ?_
      refine V_bipush (v := nI 65) rfl (by decide) ?_
      refine V_iload_n rfl (by first | rfl | assumption) ?_
      refine V_iaddN rfl ?_
      refine V_baldB rfl (by repeat (first | exact hup_eq | assumption | refine Eq.trans (hup_ne (by first | assumption | exact Ne.symm (by assumption) | decide | omega)) ?_)) rfl (by first | omega | decide) (by first | omega | decide) ?_
      rw [u14 i hi, hrg2 (65 + i) (by omega)]
      have hb2 : gD c (65 + i) < 256 := by rw [← hrg2 (65 + i) (by omega)]; exact h65
      refine V_icmp_ne rfl (fun z2 => ?_) (fun z2 => ?_)
      · refine V_iconst (v := bI false) rfl (by decide) ?_
        refine tl false ?_
        simp only [eqU]
        rw [decide_eq_false (p := sft (gD c) 65 i = pr i) (fun q => z2 ((bB_inj (hprb i) hb2).mpr q.symm)), Bool.and_false, Bool.and_false]
      · refine V_iconst (v := bI true) rfl (by decide) ?_
        refine V_goto rfl ?_
        refine tl true ?_
        simp only [eqU]
        rw [decide_eq_true (p := sft (gD c) 65 i = pr i) ((bB_inj (hprb i) hb2).mp z2).symm, Bool.and_true, z]
  · rintro lc G7 ⟨l0, l1, l2, rfl⟩
    refine V_iload_n rfl (by first | rfl | assumption) ?_
    refine V_bipush (v := nI 32) rfl (by decide) ?_
    refine V_icmp_geN rfl (by decide) (by decide) (fun _ => ?_) (fun h => absurd (Nat.le_refl _) h)
    refine V_iload_n rfl (by assumption) ?_
    refine V_zret rfl rfl (bI_01 _) (hq _ _ R5 _ FA j140 hRM9 j157 hRP5 u11 u13 ?_)
    rw [Bool.and_eq_true, hb1, eqU_iff, eqU_iff, lst_iff, lst_iff]
end MWire6
