section MWire2
variable {K : kK} {G : kG} {Q : kO → kG → Prop} {T : TB} {S : SG} {th ta os hs ps rs : Int32}
theorem RM.r159 {S' : SG} {G' : kG} (h : RM T S G) (F : ∀ j, 143 ≤ j → j ≤ 181 → j ≠ 159 → G'.1 j = G.1 j) (hw : rwo S S') (hk : ∀ i j, i ≠ 4 → i ≠ 5 → rw9 (S'.1 j) i = rw9 (S.1 j) i) (e2 : S'.2.1 = S.2.1) (h2 : rIn S' G') : RM T S' G' := by
  refine h.rw hw (fun j a b c => F j a b (by omega)) ?_ ?_ h2 ?_ ?_
  · exact (h.2.1.fp (F _ (by decide) (by decide) (by decide))).st (fun j _ => ⟨hk _ j (by decide) (by decide), hk _ j (by decide) (by decide), hk _ j (by decide) (by decide)⟩) e2
  · exact (h.2.2.1.fp (F _ (by decide) (by decide) (by decide))).st (fun j _ => hk _ j (by decide) (by decide))
  · exact (h.2.2.2.2.1.fp (F _ (by decide) (by decide) (by decide))).st (fun j _ => ⟨hk _ j (by decide) (by decide), hk _ j (by decide) (by decide), hk _ j (by decide) (by decide), hk _ j (by decide) (by decide)⟩)
  · exact (h.2.2.2.2.2.1.fp (F _ (by decide) (by decide) (by decide))).st (fun j _ => ⟨hk _ j (by decide) (by decide), hk _ j (by decide) (by decide)⟩)
theorem oin_lst {s : ES} {c : Nat → Nat} {a : Nat} (h : ∀ j, j < 8 → c (a + j) = rw9 s 1 j) : [20] ++ lst (sft c a) 8 = lst (oinit s) 9 := by
  rw [show (9 : Nat) = 1 + 8 from rfl, lst_app]
  have e1 : lst (oinit s) 1 = [20] := rfl
  rw [e1, show lst (sft c a) 8 = lst (fun j => oinit s (1 + j)) 8 from lst_congr (fun j hj => by
    unfold oinit sft
    rw [if_neg (by omega), h j hj]
    congr 1
    omega)]
set_option maxHeartbeats 4000000 in
theorem c_minit {e : Nat} (he : e < 2) (hqt : qtO T.2.2) (g140 : G.1 140 = some (MO th ta os hs ps rs)) (hR : RM T S G) (hsent : nm (S.1 e) 0 < 2 ^ 31)
    (hq : ∀ G' ps', FP (fun j => PO j ∨ j = 159 ∨ j = 167) G G' → G'.1 140 = some (MO th ta os hs ps' rs) → RM T (bgn T S e) G' → Q (.inl none) G') : C K 0 0 mX12_postInit [.ref 140, .int (nI e)] G Q := by
  obtain ⟨c, g158, hcb, hc⟩ := id hR.2.2.1
  obtain ⟨I, g159, hIb, hI⟩ := id hR.2.2.2.1
  have f2 := hR.2.2.2.2.2.2.2.2.1.2.2.1
  refine C_of okX12_postInit (Nat.le_of_ble_eq_true rfl) ?_
  refine V_aload_n rfl (by first | rfl | assumption) ?_
  refine V_iconst (v := nI 0) rfl (by decide) ?_
  refine V_pf_ps rfl rfl rfl (by repeat (first | exact hup_eq | assumption | refine Eq.trans (hup_ne (by first | assumption | exact Ne.symm (by assumption) | decide | omega)) ?_)) ?_
  refine V_aload_n rfl (by first | rfl | assumption) ?_
  refine V_bipush (v := nI 20) rfl (by decide) ?_
  have hp0 : plM [] (hup G 140 (MO th ta os hs (nI 0) rs)) := (plM.nl hR.1.2.2.2.2.2.1).fp (hup_ne (by decide))
  refine V_callV (M' := mX12_say) (mc := 0) (ms := 0) (bc' := 0) (bs' := 0) rfl cw_X12_307 iv_X12_say (by repeat (first | exact hup_eq | assumption | refine Eq.trans (hup_ne (by first | assumption | exact Ne.symm (by assumption) | decide | omega)) ?_)) rfl rfl (Nat.le_of_ble_eq_true rfl) ⟨Nat.le_of_ble_eq_true rfl, Nat.le_of_ble_eq_true rfl⟩ ⟨Nat.le_of_ble_eq_true rfl, Nat.le_of_ble_eq_true rfl⟩ (As := [.int (nI 20)]) (c_msay (p := []) (Q := fun o G2 => o = .inl none ∧ FP PP2 (hup G 140 (MO th ta os hs (nI 0) rs)) G2 ∧ G2.1 140 = some (MO th ta os hs (nI [20].length) rs) ∧ plM [20] G2) hup_eq hp0 (by decide) (fun G2 h1 h2 h3 => ⟨rfl, h1, h2, h3⟩)) (fun o G2 h => ?_) (fun E G' h => by cases h.1)
  obtain ⟨h, F2, k140, kp⟩ := h
  cases h
  have F : FP PP2 G G2 := (FP.rf.hup (by decide)).trans F2 (fun _ q => q)
  have k158 := F.get (by decide) g158
  refine V_aload_n rfl (by first | rfl | assumption) ?_
  refine V_aload_n rfl (by first | rfl | assumption) ?_
  refine V_getf rfl rfl rfl (by repeat (first | exact hup_eq | assumption | refine Eq.trans (hup_ne (by first | assumption | exact Ne.symm (by assumption) | decide | omega)) ?_)) (by first | rfl | assumption) ?_
  refine V_bipush (v := nI 8) rfl (by decide) ?_
  refine V_iload_n rfl (by first | rfl | assumption) ?_
  refine V_imulN rfl ?_
  refine V_bipush (v := nI 8) rfl (by decide) ?_
  refine V_callV (M' := mX12_sayRow) (mc := 0) (ms := 0) (bc' := 0) (bs' := 0) rfl cw_X12_324 iv_X12_sayRow (by repeat (first | exact hup_eq | assumption | refine Eq.trans (hup_ne (by first | assumption | exact Ne.symm (by assumption) | decide | omega)) ?_)) rfl rfl (Nat.le_of_ble_eq_true rfl) ⟨Nat.le_of_ble_eq_true rfl, Nat.le_of_ble_eq_true rfl⟩ ⟨Nat.le_of_ble_eq_true rfl, Nat.le_of_ble_eq_true rfl⟩ (As := [.ref 158, .int (nI (8 * e)), .int (nI 8)]) (c_msayRow (p := [20]) (Q := fun o G3 => o = .inl none ∧ FP PP2 G2 G3 ∧ G3.1 140 = some (MO th ta os hs (nI (lst (oinit (S.1 e)) 9).length) rs) ∧ plM (lst (oinit (S.1 e)) 9) G3) k140 kp k158 (by decide) (by omega) (by decide) hcb (by decide) (fun G3 h1 h2 h3 => ?_)) (fun o G3 h => ?_) (fun E G' h => by cases h.1)
  · rw [oin_lst (s := S.1 e) (hc e he)] at h2 h3
    exact ⟨rfl, h1, h2, h3⟩
  obtain ⟨h, F3, j140, jp⟩ := h
  cases h
  have F := F.trans F3 (fun _ q => q)
  have j159 := F.get (by decide) g159
  have hR3 : RM T S G3 := hR.pl F jp
  obtain ⟨pb, j179, hpb, hpl⟩ := id jp
  rw [lst_len] at hpl
  have hpl2 := lst_inj hpl
  have j167 := F.get (by decide) f2
  refine V_iconst (v := nI 0) rfl (by decide) ?_
  refine V_istore_n rfl (by decide) ?_
  refine V_loop 9 (fun i lc G' => lc 0 = some (.ref 140) ∧ lc 1 = some (.int (nI e)) ∧ lc 2 = some (.int (nI i)) ∧ G' = hup G3 159 (YA 36 (ovw I (18 * e) i pb))) ?_ ?_ 0 _ _ (Nat.zero_le _) ⟨rfl, rfl, rfl, by rw [ovw_0, hup_same j159]⟩
  · rintro i lc G' hi ⟨l0, l1, l2, rfl⟩ ih
    refine V_iload_n rfl (by first | rfl | assumption) ?_
    refine V_bipush (v := nI 9) rfl (by decide) ?_
    refine V_icmp_geN rfl (by omega) (by decide) (fun h => absurd h (by omega)) (fun _ => ?_)
    refine V_aload_n rfl (by first | rfl | assumption) ?_
    refine V_getf rfl rfl rfl (by repeat (first | exact hup_eq | assumption | refine Eq.trans (hup_ne (by first | assumption | exact Ne.symm (by assumption) | decide | omega)) ?_)) (by first | rfl | assumption) ?_
    refine V_bipush (v := nI 18) rfl (by decide) ?_
    refine V_iload_n rfl (by first | rfl | assumption) ?_
    refine V_imulN rfl ?_
    refine V_iload_n rfl (by first | rfl | assumption) ?_
    refine V_iaddN rfl ?_
    refine V_aload_n rfl (by first | rfl | assumption) ?_
    refine V_getf rfl rfl rfl (by repeat (first | exact hup_eq | assumption | refine Eq.trans (hup_ne (by first | assumption | exact Ne.symm (by assumption) | decide | omega)) ?_)) (by first | rfl | assumption) ?_
    refine V_iload_n rfl (by first | rfl | assumption) ?_
    refine V_baldB rfl (by repeat (first | exact hup_eq | assumption | refine Eq.trans (hup_ne (by first | assumption | exact Ne.symm (by assumption) | decide | omega)) ?_)) rfl (by first | omega | decide) (by first | omega | decide) ?_
    refine V_bastB rfl (by repeat (first | exact hup_eq | assumption | refine Eq.trans (hup_ne (by first | assumption | exact Ne.symm (by assumption) | decide | omega)) ?_)) rfl (by first | omega | decide) (by first | omega | decide) (by first | assumption | solve_by_elim | exact Nat.mod_lt _ (by decide) | omega) ?_
    refine V_iincN (d := 1) rfl (by first | rfl | assumption) (by decide) (by decide) ?_
    refine V_goto rfl ?_
    rw [hup_hup, ovw_s]
    exact ih _ _ ⟨l0, l1, rfl, rfl⟩
  · rintro lc G' ⟨l0, l1, l2, rfl⟩
    refine V_iload_n rfl (by first | rfl | assumption) ?_
    refine V_bipush (v := nI 9) rfl (by decide) ?_
    refine V_icmp_geN rfl (by decide) (by decide) (fun _ => ?_) (fun h => absurd (Nat.le_refl _) h)
    refine V_aload_n rfl (by first | rfl | assumption) ?_
    refine V_getf rfl rfl rfl (by repeat (first | exact hup_eq | assumption | refine Eq.trans (hup_ne (by first | assumption | exact Ne.symm (by assumption) | decide | omega)) ?_)) (by first | rfl | assumption) ?_
    refine V_iload_n rfl (by first | rfl | assumption) ?_
    refine V_iconst (v := nI 1) rfl (by decide) ?_
    refine V_zastZ true rfl (by repeat (first | exact hup_eq | assumption | refine Eq.trans (hup_ne (by first | assumption | exact Ne.symm (by assumption) | decide | omega)) ?_)) (by decide) rfl (by first | omega | decide) (by first | omega | decide) ?_
    have hob : ∀ j, j < 9 → oinit (S.1 e) j < 256 := fun j hj => by rw [← hpl2 j hj]; exact hpb j
    have hR4 : RM T (sE S e (srw (S.1 e) 4 (oinit (S.1 e)))) (hup G3 159 (YA 36 (ovw I (18 * e) 9 pb))) := by
      refine hR3.r159 (fun j _ _ h => hup_ne h) rwo_sE (fun i j h4 h5 => srw_o h4 j) rfl ⟨_, hup_eq, ovw_lt hIb (fun j _ => hpb j), fun i hi j hj => ?_⟩
      rw [srw_o (k := 4) (i := 5) (by decide), ovw_out (j := 18 * i + 9 + j) (by omega)]
      refine ⟨?_, (hI i hi j hj).2⟩
      by_cases x : i = e
      · subst x; rw [srw_e, ovw_in hj]; exact hpl2 j hj
      · rw [srw_n x, ovw_out (by omega)]; exact (hI i hi j hj).1
    have hR5 := hR4.f2 (e := e) (b := true)
    rw [sE_sE, sE_e, show (fun j => fl ((sE S e (srw (S.1 e) 4 (oinit (S.1 e)))).1 j) 2) = fun j => fl (S.1 j) 2 from pj_same (S := S) (fun s => fl s 2) (e := e) (s := srw (S.1 e) 4 (oinit (S.1 e))) rfl] at hR5
    have hns : nm ((wIn S e).1 e) 0 = nm (S.1 e) 0 := by unfold wIn; rw [sE_e]; rfl
    refine V_aload_n rfl (by first | rfl | assumption) ?_
    refine V_iload_n rfl (by first | rfl | assumption) ?_
    refine V_callV (M' := mX12_post) (mc := 0) (ms := 0) (bc' := 0) (bs' := 0) rfl cw_X12_310 iv_X12_post (by repeat (first | exact hup_eq | assumption | refine Eq.trans (hup_ne (by first | assumption | exact Ne.symm (by assumption) | decide | omega)) ?_)) rfl rfl (Nat.le_of_ble_eq_true rfl) ⟨Nat.le_of_ble_eq_true rfl, Nat.le_of_ble_eq_true rfl⟩ ⟨Nat.le_of_ble_eq_true rfl, Nat.le_of_ble_eq_true rfl⟩ (As := [.int (nI e)]) (c_mpost (S := wIn S e) (p := lst (oinit (S.1 e)) 9) (Q := fun o G6 => o = .inl none ∧ FP PW (hup (hup G3 159 (YA 36 (ovw I (18 * e) 9 pb))) 167 (ZA 2 (up (fun j => fl (S.1 j) 2) e true))) G6 ∧ RM T (bgn T S e) G6) he hqt (by repeat (first | exact hup_eq | assumption | refine Eq.trans (hup_ne (by first | assumption | exact Ne.symm (by assumption) | decide | omega)) ?_)) hR5 (jp.fp (by rw [hup_ne (by decide), hup_ne (by decide)])) (by rw [lst_len]; decide) (by rw [hns]; exact hsent) (fun G6 h1 h2 => ⟨rfl, h1, h2⟩)) (fun o G6 h => ?_) (fun E G' h => by cases h.1)
    obtain ⟨h, F6, hR6⟩ := h
    cases h
    refine V_vret rfl rfl (hq _ (nI (lst (oinit (S.1 e)) 9).length) ?_ (F6.get (by decide) (by repeat (first | exact hup_eq | assumption | refine Eq.trans (hup_ne (by first | assumption | exact Ne.symm (by assumption) | decide | omega)) ?_))) hR6)
    have F9 : FP (fun j => PO j ∨ j = 159 ∨ j = 167) G G3 := F.sub (fun _ q => Or.inl (Or.inr q))
    exact (((F9.hup (Or.inr (Or.inl rfl))).hup (Or.inr (Or.inr rfl))).trans F6 (fun _ q => Or.inl (Or.inl q)))
abbrev PC (j : Nat) : Prop := j = 143 ∨ j = 144 ∨ j = 157
set_option maxHeartbeats 4000000 in
theorem c_mtakeS {e : Nat} (he : e < 2) (g140 : G.1 140 = some (MO th ta os hs ps rs)) (hR : RM T S G)
    (hq : ∀ G' R', FP PC G G' → RM T (tks S e) G' → G'.1 157 = some (YA 640 R') → rowP (tks S e) R' → (∀ j, j < 32 → R' (288 + j) = pub ((tks S e).1 e) j) → Q (.inl none) G') : C K 0 0 mX12_takeSecret [.ref 140, .int (nI e)] G Q := by
  obtain ⟨R, g157, hRP⟩ := id hR.2.1
  have hRP : rowP S R := hRP
  refine C_of okX12_takeSecret (Nat.le_of_ble_eq_true rfl) ?_
  refine V_iconst (v := nI 0) rfl (by decide) ?_
  refine V_istore_n rfl (by decide) ?_
  refine V_loop 32 (fun i lc G' => lc 0 = some (.ref 140) ∧ lc 1 = some (.int (nI e)) ∧ lc 2 = some (.int (nI i)) ∧ G' = hup G 157 (YA 640 (ovw R (32 * (2 + e)) i (fun k => R (32 * e + k))))) ?_ ?_ 0 _ _ (Nat.zero_le _) ⟨rfl, rfl, rfl, by rw [ovw_0, hup_same g157]⟩
  · rintro i lc G' hi ⟨l0, l1, l2, rfl⟩ ih
    refine V_iload_n rfl (by first | rfl | assumption) ?_
    refine V_bipush (v := nI 32) rfl (by decide) ?_
    refine V_icmp_geN rfl (by omega) (by decide) (fun h => absurd h (by omega)) (fun _ => ?_)
    refine V_aload_n rfl (by first | rfl | assumption) ?_
    refine V_getf rfl rfl rfl (by repeat (first | exact hup_eq | assumption | refine Eq.trans (hup_ne (by first | assumption | exact Ne.symm (by assumption) | decide | omega)) ?_)) (by first | rfl | assumption) ?_
    refine V_iconst (v := nI 2) rfl (by decide) ?_
    refine V_iload_n rfl (by first | rfl | assumption) ?_
    refine V_iaddN rfl ?_
    refine V_callS (M' := mX12_row) (mc := 0) (ms := 0) (bc' := 0) (bs' := 0) rfl cw_X12_267 is_X12_row rfl (Nat.le_of_ble_eq_true rfl) ⟨Nat.le_of_ble_eq_true rfl, Nat.le_of_ble_eq_true rfl⟩ ⟨Nat.le_of_ble_eq_true rfl, Nat.le_of_ble_eq_true rfl⟩ (As := [.int (nI (2 + e))]) (c_mrow (Q := fun o G2 => o = .inl (some (.int (nI (32 * (2 + e))))) ∧ G2 = hup G 157 (YA 640 (ovw R (32 * (2 + e)) i (fun k => R (32 * e + k))))) ⟨rfl, rfl⟩) (fun o G2 h => ?_) (fun E G' h => by cases h.1)
    obtain ⟨h, rfl⟩ := h
    cases h
    refine V_iload_n rfl (by first | rfl | assumption) ?_
    refine V_iaddN rfl ?_
    refine V_aload_n rfl (by first | rfl | assumption) ?_
    refine V_getf rfl rfl rfl (by repeat (first | exact hup_eq | assumption | refine Eq.trans (hup_ne (by first | assumption | exact Ne.symm (by assumption) | decide | omega)) ?_)) (by first | rfl | assumption) ?_
    refine V_iload_n rfl (by first | rfl | assumption) ?_
    refine V_callS (M' := mX12_row) (mc := 0) (ms := 0) (bc' := 0) (bs' := 0) rfl cw_X12_267 is_X12_row rfl (Nat.le_of_ble_eq_true rfl) ⟨Nat.le_of_ble_eq_true rfl, Nat.le_of_ble_eq_true rfl⟩ ⟨Nat.le_of_ble_eq_true rfl, Nat.le_of_ble_eq_true rfl⟩ (As := [.int (nI e)]) (c_mrow (Q := fun o G2 => o = .inl (some (.int (nI (32 * e)))) ∧ G2 = hup G 157 (YA 640 (ovw R (32 * (2 + e)) i (fun k => R (32 * e + k))))) ⟨rfl, rfl⟩) (fun o G2 h => ?_) (fun E G' h => by cases h.1)
    obtain ⟨h, rfl⟩ := h
    cases h
    have eo : ovw R (32 * (2 + e)) i (fun k => R (32 * e + k)) (32 * e + i) = R (32 * e + i) := ovw_out (by omega)
    have hb := hRP.1 (32 * e + i)
    refine V_iload_n rfl (by first | rfl | assumption) ?_
    refine V_iaddN rfl ?_
    refine V_baldB rfl (by repeat (first | exact hup_eq | assumption | refine Eq.trans (hup_ne (by first | assumption | exact Ne.symm (by assumption) | decide | omega)) ?_)) rfl (by first | omega | decide) (by first | omega | decide) ?_
    rw [eo]
    refine V_bastB rfl (by repeat (first | exact hup_eq | assumption | refine Eq.trans (hup_ne (by first | assumption | exact Ne.symm (by assumption) | decide | omega)) ?_)) rfl (by first | omega | decide) (by first | omega | decide) (by first | assumption | solve_by_elim | exact Nat.mod_lt _ (by decide) | omega) ?_
    refine V_iincN (d := 1) rfl (by first | rfl | assumption) (by decide) (by decide) ?_
    refine V_goto rfl ?_
    rw [hup_hup, ovw_s' (g := fun k => R (32 * e + k)) (by rfl)]
    exact ih _ _ ⟨l0, l1, rfl, rfl⟩
  · rintro lc G' ⟨l0, l1, l2, rfl⟩
    refine V_iload_n rfl (by first | rfl | assumption) ?_
    refine V_bipush (v := nI 32) rfl (by decide) ?_
    refine V_icmp_geN rfl (by decide) (by decide) (fun _ => ?_) (fun h => absurd (Nat.le_refl _) h)
    obtain ⟨R1, hR1⟩ : ∃ R1, R1 = ovw R (32 * (2 + e)) 32 (fun k => R (32 * e + k)) := ⟨_, rfl⟩
    have hRP1 : rowP (tks S e) R1 := by
      rw [hR1, ovw_congr (g' := rw9 (S.1 e) 0) (fun j hj => ((hRP.2 j hj).1 e he).1)]
      exact hRP.w3 he (fun j hj => by rw [← ((hRP.2 j hj).1 e he).1]; exact hRP.1 _)
    rw [← hR1]
    have hRM1 : RM T (tks S e) (hup G 157 (YA 640 R1)) := hR.r157 (fun j _ _ h => hup_ne h) rwo_sE (fun i j hi => srw_o (by omega) j) ⟨_, hup_eq, hRP1⟩
    clear hR1
    obtain ⟨G1, hG1⟩ : ∃ G1, G1 = hup G 157 (YA 640 R1) := ⟨_, rfl⟩
    rw [← hG1] at hRM1 ⊢
    have F1 : FP PC G G1 := by rw [hG1]; exact FP.rf.hup (by decide)
    have k157 : G1.1 157 = some (YA 640 R1) := by rw [hG1, hup_eq]
    have k140 := F1.get (by decide) g140
    clear hG1
    refine V_aload_n rfl (by first | rfl | assumption) ?_
    refine V_aload_n rfl (by first | rfl | assumption) ?_
    refine V_getf rfl rfl rfl (by repeat (first | exact hup_eq | assumption | refine Eq.trans (hup_ne (by first | assumption | exact Ne.symm (by assumption) | decide | omega)) ?_)) (by first | rfl | assumption) ?_
    refine V_iconst (v := nI 2) rfl (by decide) ?_
    refine V_iload_n rfl (by first | rfl | assumption) ?_
    refine V_iaddN rfl ?_
    refine V_callS (M' := mX12_row) (mc := 0) (ms := 0) (bc' := 0) (bs' := 0) rfl cw_X12_267 is_X12_row rfl (Nat.le_of_ble_eq_true rfl) ⟨Nat.le_of_ble_eq_true rfl, Nat.le_of_ble_eq_true rfl⟩ ⟨Nat.le_of_ble_eq_true rfl, Nat.le_of_ble_eq_true rfl⟩ (As := [.int (nI (2 + e))]) (c_mrow (Q := fun o G2 => o = .inl (some (.int (nI (32 * (2 + e))))) ∧ G2 = G1) ⟨rfl, rfl⟩) (fun o G2 h => ?_) (fun E G' h => by cases h.1)
    obtain ⟨h, rfl⟩ := h
    cases h
    refine V_aload_n rfl (by first | rfl | assumption) ?_
    refine V_getf rfl rfl rfl (by repeat (first | exact hup_eq | assumption | refine Eq.trans (hup_ne (by first | assumption | exact Ne.symm (by assumption) | decide | omega)) ?_)) (by first | rfl | assumption) ?_
    refine V_bipush (v := nI 8) rfl (by decide) ?_
    refine V_callS (M' := mX12_row) (mc := 0) (ms := 0) (bc' := 0) (bs' := 0) rfl cw_X12_267 is_X12_row rfl (Nat.le_of_ble_eq_true rfl) ⟨Nat.le_of_ble_eq_true rfl, Nat.le_of_ble_eq_true rfl⟩ ⟨Nat.le_of_ble_eq_true rfl, Nat.le_of_ble_eq_true rfl⟩ (As := [.int (nI 8)]) (c_mrow (Q := fun o G3 => o = .inl (some (.int (nI (32 * 8)))) ∧ G3 = G2) ⟨rfl, rfl⟩) (fun o G3 h => ?_) (fun E G' h => by cases h.1)
    obtain ⟨h, rfl⟩ := h
    cases h
    refine V_aload_n rfl (by first | rfl | assumption) ?_
    refine V_getf rfl rfl rfl (by repeat (first | exact hup_eq | assumption | refine Eq.trans (hup_ne (by first | assumption | exact Ne.symm (by assumption) | decide | omega)) ?_)) (by first | rfl | assumption) ?_
    refine V_bipush (v := nI 9) rfl (by decide) ?_
    refine V_callS (M' := mX12_row) (mc := 0) (ms := 0) (bc' := 0) (bs' := 0) rfl cw_X12_267 is_X12_row rfl (Nat.le_of_ble_eq_true rfl) ⟨Nat.le_of_ble_eq_true rfl, Nat.le_of_ble_eq_true rfl⟩ ⟨Nat.le_of_ble_eq_true rfl, Nat.le_of_ble_eq_true rfl⟩ (As := [.int (nI 9)]) (c_mrow (Q := fun o G2 => o = .inl (some (.int (nI (32 * 9)))) ∧ G2 = G3) ⟨rfl, rfl⟩) (fun o G2 h => ?_) (fun E G' h => by cases h.1)
    obtain ⟨h, rfl⟩ := h
    cases h
    refine V_callV (M' := mX12_pointTimes) (mc := 0) (ms := 0) (bc' := 0) (bs' := 0) rfl cw_X12_270 iv_X12_pointTimes (by repeat (first | exact hup_eq | assumption | refine Eq.trans (hup_ne (by first | assumption | exact Ne.symm (by assumption) | decide | omega)) ?_)) rfl rfl (Nat.le_of_ble_eq_true rfl) ⟨Nat.le_of_ble_eq_true rfl, Nat.le_of_ble_eq_true rfl⟩ ⟨Nat.le_of_ble_eq_true rfl, Nat.le_of_ble_eq_true rfl⟩ (As := [.ref 157, .int (nI (32 * (2 + e))), .ref 157, .int (nI (32 * 8)), .ref 157, .int (nI (32 * 9))]) (c_mpoint (Q := fun o G3 => o = .inl none ∧ FP PC G2 G3 ∧ (∃ D, crM D G3) ∧ G3.1 157 = some (YA 640 (ovw R1 (32 * 9) 32 (mulB (sft R1 (32 * (2 + e))) (sft R1 (32 * 8)))))) k140 hRM1.1.1 k157 k157 k157 (by decide) (by decide) (by decide) (by omega) (by decide) (by decide) hRP1.1 hRP1.1 (fun G3 h1 h2 h3 => ⟨rfl, h1, h2, h3⟩)) (fun o G3 h => ?_) (fun E G' h => by cases h.1)
    obtain ⟨h, F3, ⟨D, hD⟩, j157⟩ := h
    cases h
    have em : mulB (sft R1 (32 * (2 + e))) (sft R1 (32 * 8)) = pub ((tks S e).1 e) := mulB_congr (fun j hj => ((hRP1.2 j hj).1 e he).2.1) (fun j hj => (hRP1.2 j hj).2.2.2)
    rw [em] at j157
    have hRP3 : rowP (tks S e) (ovw R1 (32 * 9) 32 (pub ((tks S e).1 e))) := hRP1.sc (by decide) (fun j _ => mulB_lt _ _ j)
    refine V_vret rfl rfl (hq _ _ (F1.trans F3 (fun _ q => q)) ?_ j157 hRP3 (fun j hj => ovw_in (a := 32 * 9) hj))
    exact hRM1.sr (hRM1.1.cr hD (fun j hj => F3.2 j (by unfold PC; omega))) ⟨_, j157, hRP3⟩ (fun j a b => F3.2 j (by unfold PC; omega))

abbrev PD (j : Nat) : Prop := j = 140 ∨ PH j ∨ j = 157
set_option maxHeartbeats 16000000 in
theorem c_mdigest0 {R : Nat → Nat} (g140 : G.1 140 = some (MO th ta os hs ps rs)) (hR : RM T S G) (g157 : G.1 157 = some (YA 640 R)) (hRP : rowP S R)
    (hq : ∀ G' hs', FP PD G G' → RM T S G' → G'.1 140 = some (MO th ta os hs' ps rs) → G'.1 157 = some (YA 640 (ovw (ovw R (32 * 13) 32 (agr T (rw9 (S.1 0) 4) (rw9 (S.1 0) 5) (sft R (32 * 10)) (sft R (32 * 9)) (sft R (32 * 16)) (sft R (32 * 11)))) (32 * 14) 32 (prf T (sft R (32 * 12)) (agr T (rw9 (S.1 0) 4) (rw9 (S.1 0) 5) (sft R (32 * 10)) (sft R (32 * 9)) (sft R (32 * 16)) (sft R (32 * 11)))))) → Q (.inl none) G') : C K 0 0 mX12_digest [.ref 140, .int (nI 0), .int (nI 9), .int (nI 16)] G Q := by
  obtain ⟨I, k159, hIb, hI⟩ := id hR.2.2.2.1
  have hRb := hRP.1
  have hl := hR.1.2.2.1
  have k157 := g157
  have hi1 : ∀ j, j < 9 → sft I (0) j = (rw9 (S.1 0) 4) j := fun j hj => (hI 0 (by decide) j hj).1
  have hi2 : ∀ j, j < 9 → sft I (9) j = (rw9 (S.1 0) 5) j := fun j hj => (hI 0 (by decide) j hj).2
  refine C_of okX12_digest (Nat.le_of_ble_eq_true rfl) ?_
  refine V_aload_n rfl (by rfl) ?_
  refine V_callV (M' := mX12_hashBegin) (mc := 0) (ms := 0) (bc' := 0) (bs' := 0) rfl cw_X12_278 iv_X12_hashBegin (by repeat (first | exact hup_eq | assumption | refine Eq.trans (hup_ne (by first | assumption | exact Ne.symm (by assumption) | decide | omega)) ?_)) rfl rfl (Nat.le_of_ble_eq_true rfl) ⟨Nat.le_of_ble_eq_true rfl, Nat.le_of_ble_eq_true rfl⟩ ⟨Nat.le_of_ble_eq_true rfl, Nat.le_of_ble_eq_true rfl⟩ (As := []) (c_mhbegin (Q := fun o Ga1 => o = .inl none ∧ Ga1 = hup G 140 (MO th ta os (nI ([] : List Nat).length) ps rs)) g140 ⟨rfl, rfl⟩) (fun o Ga1 h => ?_) (fun E G' h => by cases h.1)
  obtain ⟨h, hG⟩ := h
  cases h
  have FX : FP (fun j => j = 140 ∨ j = 149) G Ga1 := by rw [hG]; exact FP.rf.hup (Or.inl rfl)
  have k140 : Ga1.1 140 = some (MO th ta os (nI ([] : List Nat).length) ps rs) := by rw [hG]; exact hup_eq
  have hl : mhl [] Ga1 := hl.fp (by rw [hG]; exact hup_ne (by decide))
  clear hG
  have FH := FX
  have k157 := FX.get (by decide) k157
  have k159 := FX.get (by decide) k159
  refine V_aload_n rfl (by first | rfl | assumption) ?_
  refine V_aload_n rfl (by first | rfl | assumption) ?_
  refine V_getf rfl rfl rfl (by repeat (first | exact hup_eq | assumption | refine Eq.trans (hup_ne (by first | assumption | exact Ne.symm (by assumption) | decide | omega)) ?_)) (by first | rfl | assumption) ?_
  refine V_iload_n rfl (by first | rfl | assumption) ?_
  refine V_if_neN rfl (by decide) (fun h => absurd rfl h) (fun h => ?_)
  refine V_iconst (v := nI 0) rfl (by decide) ?_
  refine V_goto rfl ?_
  refine V_bipush (v := nI 9) rfl (by decide) ?_
  refine V_callV (M' := mX12_hashAdd) (mc := 0) (ms := 0) (bc' := 0) (bs' := 0) rfl cw_X12_281 iv_X12_hashAdd (by repeat (first | exact hup_eq | assumption | refine Eq.trans (hup_ne (by first | assumption | exact Ne.symm (by assumption) | decide | omega)) ?_)) rfl rfl (Nat.le_of_ble_eq_true rfl) ⟨Nat.le_of_ble_eq_true rfl, Nat.le_of_ble_eq_true rfl⟩ ⟨Nat.le_of_ble_eq_true rfl, Nat.le_of_ble_eq_true rfl⟩ (As := [.ref 159, .int (nI (0)), .int (nI 9)]) (c_mhadd (l := []) (Q := fun o Ga2 => o = .inl none ∧ FP (fun j => j = 140 ∨ j = 149) Ga1 Ga2 ∧ Ga2.1 140 = some (MO th ta os (nI (lst (rw9 (S.1 0) 4) 9).length) ps rs) ∧ mhl (lst (rw9 (S.1 0) 4) 9) Ga2) k140 hl k159 (by decide) (by decide) (by decide) hIb (by simp only [List.length_append, List.length_nil, List.length_singleton, lst_len]; decide) (fun G9 h1 h2 h3 => ?_)) (fun o Ga2 h => ?_) (fun E G' h => by cases h.1)
  · rw [List.nil_append, lst_congr hi1] at h2 h3
    exact ⟨rfl, h1, h2, h3⟩
  obtain ⟨h, FX, k140, hl⟩ := h
  cases h
  have FH := FH.trans FX (fun _ q => q)
  have k157 := FX.get (by decide) k157
  have k159 := FX.get (by decide) k159
  refine V_aload_n rfl (by first | rfl | assumption) ?_
  refine V_aload_n rfl (by first | rfl | assumption) ?_
  refine V_getf rfl rfl rfl (by repeat (first | exact hup_eq | assumption | refine Eq.trans (hup_ne (by first | assumption | exact Ne.symm (by assumption) | decide | omega)) ?_)) (by first | rfl | assumption) ?_
  refine V_iload_n rfl (by first | rfl | assumption) ?_
  refine V_if_neN rfl (by decide) (fun h => absurd rfl h) (fun h => ?_)
  refine V_bipush (v := nI 9) rfl (by decide) ?_
  refine V_goto rfl ?_
  refine V_bipush (v := nI 9) rfl (by decide) ?_
  refine V_callV (M' := mX12_hashAdd) (mc := 0) (ms := 0) (bc' := 0) (bs' := 0) rfl cw_X12_281 iv_X12_hashAdd (by repeat (first | exact hup_eq | assumption | refine Eq.trans (hup_ne (by first | assumption | exact Ne.symm (by assumption) | decide | omega)) ?_)) rfl rfl (Nat.le_of_ble_eq_true rfl) ⟨Nat.le_of_ble_eq_true rfl, Nat.le_of_ble_eq_true rfl⟩ ⟨Nat.le_of_ble_eq_true rfl, Nat.le_of_ble_eq_true rfl⟩ (As := [.ref 159, .int (nI (9)), .int (nI 9)]) (c_mhadd (l := lst (rw9 (S.1 0) 4) 9) (Q := fun o Ga3 => o = .inl none ∧ FP (fun j => j = 140 ∨ j = 149) Ga2 Ga3 ∧ Ga3.1 140 = some (MO th ta os (nI (lst (rw9 (S.1 0) 4) 9 ++ lst (rw9 (S.1 0) 5) 9).length) ps rs) ∧ mhl (lst (rw9 (S.1 0) 4) 9 ++ lst (rw9 (S.1 0) 5) 9) Ga3) k140 hl k159 (by decide) (by decide) (by decide) hIb (by simp only [List.length_append, List.length_nil, List.length_singleton, lst_len]; decide) (fun G9 h1 h2 h3 => ?_)) (fun o Ga3 h => ?_) (fun E G' h => by cases h.1)
  · rw [lst_congr hi2] at h2 h3
    exact ⟨rfl, h1, h2, h3⟩
  obtain ⟨h, FX, k140, hl⟩ := h
  cases h
  have FH := FH.trans FX (fun _ q => q)
  have k157 := FX.get (by decide) k157
  refine V_aload_n rfl (by first | rfl | assumption) ?_
  refine V_aload_n rfl (by first | rfl | assumption) ?_
  refine V_getf rfl rfl rfl (by repeat (first | exact hup_eq | assumption | refine Eq.trans (hup_ne (by first | assumption | exact Ne.symm (by assumption) | decide | omega)) ?_)) (by first | rfl | assumption) ?_
  refine V_bipush (v := nI 10) rfl (by decide) ?_
  refine V_callS (M' := mX12_row) (mc := 0) (ms := 0) (bc' := 0) (bs' := 0) rfl cw_X12_267 is_X12_row rfl (Nat.le_of_ble_eq_true rfl) ⟨Nat.le_of_ble_eq_true rfl, Nat.le_of_ble_eq_true rfl⟩ ⟨Nat.le_of_ble_eq_true rfl, Nat.le_of_ble_eq_true rfl⟩ (As := [.int (nI 10)]) (c_mrow (Q := fun o G9 => o = .inl (some (.int (nI (32 * 10)))) ∧ G9 = Ga3) ⟨rfl, rfl⟩) (fun o G9 h => ?_) (fun E G' h => by cases h.1)
  obtain ⟨h, h9⟩ := h
  cases h
  rw [h9]
  clear h9
  refine V_bipush (v := nI 32) rfl (by decide) ?_
  refine V_callV (M' := mX12_hashAdd) (mc := 0) (ms := 0) (bc' := 0) (bs' := 0) rfl cw_X12_281 iv_X12_hashAdd (by repeat (first | exact hup_eq | assumption | refine Eq.trans (hup_ne (by first | assumption | exact Ne.symm (by assumption) | decide | omega)) ?_)) rfl rfl (Nat.le_of_ble_eq_true rfl) ⟨Nat.le_of_ble_eq_true rfl, Nat.le_of_ble_eq_true rfl⟩ ⟨Nat.le_of_ble_eq_true rfl, Nat.le_of_ble_eq_true rfl⟩ (As := [.ref 157, .int (nI (32 * 10)), .int (nI 32)]) (c_mhadd (l := lst (rw9 (S.1 0) 4) 9 ++ lst (rw9 (S.1 0) 5) 9) (Q := fun o Ga4 => o = .inl none ∧ FP (fun j => j = 140 ∨ j = 149) Ga3 Ga4 ∧ Ga4.1 140 = some (MO th ta os (nI (lst (rw9 (S.1 0) 4) 9 ++ lst (rw9 (S.1 0) 5) 9 ++ lst (sft R (32 * 10)) 32).length) ps rs) ∧ mhl (lst (rw9 (S.1 0) 4) 9 ++ lst (rw9 (S.1 0) 5) 9 ++ lst (sft R (32 * 10)) 32) Ga4) k140 hl k157 (by decide) (by decide) (by decide) hRb (by simp only [List.length_append, List.length_nil, List.length_singleton, lst_len]; decide) (fun G9 h1 h2 h3 => ?_)) (fun o Ga4 h => ?_) (fun E G' h => by cases h.1)
  · exact ⟨rfl, h1, h2, h3⟩
  obtain ⟨h, FX, k140, hl⟩ := h
  cases h
  have FH := FH.trans FX (fun _ q => q)
  have k157 := FX.get (by decide) k157
  refine V_aload_n rfl (by first | rfl | assumption) ?_
  refine V_aload_n rfl (by first | rfl | assumption) ?_
  refine V_getf rfl rfl rfl (by repeat (first | exact hup_eq | assumption | refine Eq.trans (hup_ne (by first | assumption | exact Ne.symm (by assumption) | decide | omega)) ?_)) (by first | rfl | assumption) ?_
  refine V_iload_n rfl (by first | rfl | assumption) ?_
  refine V_callS (M' := mX12_row) (mc := 0) (ms := 0) (bc' := 0) (bs' := 0) rfl cw_X12_267 is_X12_row rfl (Nat.le_of_ble_eq_true rfl) ⟨Nat.le_of_ble_eq_true rfl, Nat.le_of_ble_eq_true rfl⟩ ⟨Nat.le_of_ble_eq_true rfl, Nat.le_of_ble_eq_true rfl⟩ (As := [.int (nI 9)]) (c_mrow (Q := fun o G9 => o = .inl (some (.int (nI (32 * 9)))) ∧ G9 = Ga4) ⟨rfl, rfl⟩) (fun o G9 h => ?_) (fun E G' h => by cases h.1)
  obtain ⟨h, h9⟩ := h
  cases h
  rw [h9]
  clear h9
  refine V_bipush (v := nI 32) rfl (by decide) ?_
  refine V_callV (M' := mX12_hashAdd) (mc := 0) (ms := 0) (bc' := 0) (bs' := 0) rfl cw_X12_281 iv_X12_hashAdd (by repeat (first | exact hup_eq | assumption | refine Eq.trans (hup_ne (by first | assumption | exact Ne.symm (by assumption) | decide | omega)) ?_)) rfl rfl (Nat.le_of_ble_eq_true rfl) ⟨Nat.le_of_ble_eq_true rfl, Nat.le_of_ble_eq_true rfl⟩ ⟨Nat.le_of_ble_eq_true rfl, Nat.le_of_ble_eq_true rfl⟩ (As := [.ref 157, .int (nI (32 * 9)), .int (nI 32)]) (c_mhadd (l := lst (rw9 (S.1 0) 4) 9 ++ lst (rw9 (S.1 0) 5) 9 ++ lst (sft R (32 * 10)) 32) (Q := fun o Ga5 => o = .inl none ∧ FP (fun j => j = 140 ∨ j = 149) Ga4 Ga5 ∧ Ga5.1 140 = some (MO th ta os (nI (lst (rw9 (S.1 0) 4) 9 ++ lst (rw9 (S.1 0) 5) 9 ++ lst (sft R (32 * 10)) 32 ++ lst (sft R (32 * 9)) 32).length) ps rs) ∧ mhl (lst (rw9 (S.1 0) 4) 9 ++ lst (rw9 (S.1 0) 5) 9 ++ lst (sft R (32 * 10)) 32 ++ lst (sft R (32 * 9)) 32) Ga5) k140 hl k157 (by decide) (by decide) (by decide) hRb (by simp only [List.length_append, List.length_nil, List.length_singleton, lst_len]; decide) (fun G9 h1 h2 h3 => ?_)) (fun o Ga5 h => ?_) (fun E G' h => by cases h.1)
  · exact ⟨rfl, h1, h2, h3⟩
  obtain ⟨h, FX, k140, hl⟩ := h
  cases h
  have FH := FH.trans FX (fun _ q => q)
  have k157 := FX.get (by decide) k157
  refine V_aload_n rfl (by first | rfl | assumption) ?_
  refine V_aload_n rfl (by first | rfl | assumption) ?_
  refine V_getf rfl rfl rfl (by repeat (first | exact hup_eq | assumption | refine Eq.trans (hup_ne (by first | assumption | exact Ne.symm (by assumption) | decide | omega)) ?_)) (by first | rfl | assumption) ?_
  refine V_iload_n rfl (by first | rfl | assumption) ?_
  refine V_callS (M' := mX12_row) (mc := 0) (ms := 0) (bc' := 0) (bs' := 0) rfl cw_X12_267 is_X12_row rfl (Nat.le_of_ble_eq_true rfl) ⟨Nat.le_of_ble_eq_true rfl, Nat.le_of_ble_eq_true rfl⟩ ⟨Nat.le_of_ble_eq_true rfl, Nat.le_of_ble_eq_true rfl⟩ (As := [.int (nI 16)]) (c_mrow (Q := fun o G9 => o = .inl (some (.int (nI (32 * 16)))) ∧ G9 = Ga5) ⟨rfl, rfl⟩) (fun o G9 h => ?_) (fun E G' h => by cases h.1)
  obtain ⟨h, h9⟩ := h
  cases h
  rw [h9]
  clear h9
  refine V_bipush (v := nI 32) rfl (by decide) ?_
  refine V_callV (M' := mX12_hashAdd) (mc := 0) (ms := 0) (bc' := 0) (bs' := 0) rfl cw_X12_281 iv_X12_hashAdd (by repeat (first | exact hup_eq | assumption | refine Eq.trans (hup_ne (by first | assumption | exact Ne.symm (by assumption) | decide | omega)) ?_)) rfl rfl (Nat.le_of_ble_eq_true rfl) ⟨Nat.le_of_ble_eq_true rfl, Nat.le_of_ble_eq_true rfl⟩ ⟨Nat.le_of_ble_eq_true rfl, Nat.le_of_ble_eq_true rfl⟩ (As := [.ref 157, .int (nI (32 * 16)), .int (nI 32)]) (c_mhadd (l := lst (rw9 (S.1 0) 4) 9 ++ lst (rw9 (S.1 0) 5) 9 ++ lst (sft R (32 * 10)) 32 ++ lst (sft R (32 * 9)) 32) (Q := fun o Ga6 => o = .inl none ∧ FP (fun j => j = 140 ∨ j = 149) Ga5 Ga6 ∧ Ga6.1 140 = some (MO th ta os (nI (lst (rw9 (S.1 0) 4) 9 ++ lst (rw9 (S.1 0) 5) 9 ++ lst (sft R (32 * 10)) 32 ++ lst (sft R (32 * 9)) 32 ++ lst (sft R (32 * 16)) 32).length) ps rs) ∧ mhl (lst (rw9 (S.1 0) 4) 9 ++ lst (rw9 (S.1 0) 5) 9 ++ lst (sft R (32 * 10)) 32 ++ lst (sft R (32 * 9)) 32 ++ lst (sft R (32 * 16)) 32) Ga6) k140 hl k157 (by decide) (by decide) (by decide) hRb (by simp only [List.length_append, List.length_nil, List.length_singleton, lst_len]; decide) (fun G9 h1 h2 h3 => ?_)) (fun o Ga6 h => ?_) (fun E G' h => by cases h.1)
  · exact ⟨rfl, h1, h2, h3⟩
  obtain ⟨h, FX, k140, hl⟩ := h
  cases h
  have FH := FH.trans FX (fun _ q => q)
  have k157 := FX.get (by decide) k157
  refine V_aload_n rfl (by first | rfl | assumption) ?_
  refine V_aload_n rfl (by first | rfl | assumption) ?_
  refine V_getf rfl rfl rfl (by repeat (first | exact hup_eq | assumption | refine Eq.trans (hup_ne (by first | assumption | exact Ne.symm (by assumption) | decide | omega)) ?_)) (by first | rfl | assumption) ?_
  refine V_bipush (v := nI 11) rfl (by decide) ?_
  refine V_callS (M' := mX12_row) (mc := 0) (ms := 0) (bc' := 0) (bs' := 0) rfl cw_X12_267 is_X12_row rfl (Nat.le_of_ble_eq_true rfl) ⟨Nat.le_of_ble_eq_true rfl, Nat.le_of_ble_eq_true rfl⟩ ⟨Nat.le_of_ble_eq_true rfl, Nat.le_of_ble_eq_true rfl⟩ (As := [.int (nI 11)]) (c_mrow (Q := fun o G9 => o = .inl (some (.int (nI (32 * 11)))) ∧ G9 = Ga6) ⟨rfl, rfl⟩) (fun o G9 h => ?_) (fun E G' h => by cases h.1)
  obtain ⟨h, h9⟩ := h
  cases h
  rw [h9]
  clear h9
  refine V_bipush (v := nI 32) rfl (by decide) ?_
  refine V_callV (M' := mX12_hashAdd) (mc := 0) (ms := 0) (bc' := 0) (bs' := 0) rfl cw_X12_281 iv_X12_hashAdd (by repeat (first | exact hup_eq | assumption | refine Eq.trans (hup_ne (by first | assumption | exact Ne.symm (by assumption) | decide | omega)) ?_)) rfl rfl (Nat.le_of_ble_eq_true rfl) ⟨Nat.le_of_ble_eq_true rfl, Nat.le_of_ble_eq_true rfl⟩ ⟨Nat.le_of_ble_eq_true rfl, Nat.le_of_ble_eq_true rfl⟩ (As := [.ref 157, .int (nI (32 * 11)), .int (nI 32)]) (c_mhadd (l := lst (rw9 (S.1 0) 4) 9 ++ lst (rw9 (S.1 0) 5) 9 ++ lst (sft R (32 * 10)) 32 ++ lst (sft R (32 * 9)) 32 ++ lst (sft R (32 * 16)) 32) (Q := fun o Ga7 => o = .inl none ∧ FP (fun j => j = 140 ∨ j = 149) Ga6 Ga7 ∧ Ga7.1 140 = some (MO th ta os (nI (lst (rw9 (S.1 0) 4) 9 ++ lst (rw9 (S.1 0) 5) 9 ++ lst (sft R (32 * 10)) 32 ++ lst (sft R (32 * 9)) 32 ++ lst (sft R (32 * 16)) 32 ++ lst (sft R (32 * 11)) 32).length) ps rs) ∧ mhl (lst (rw9 (S.1 0) 4) 9 ++ lst (rw9 (S.1 0) 5) 9 ++ lst (sft R (32 * 10)) 32 ++ lst (sft R (32 * 9)) 32 ++ lst (sft R (32 * 16)) 32 ++ lst (sft R (32 * 11)) 32) Ga7) k140 hl k157 (by decide) (by decide) (by decide) hRb (by simp only [List.length_append, List.length_nil, List.length_singleton, lst_len]; decide) (fun G9 h1 h2 h3 => ?_)) (fun o Ga7 h => ?_) (fun E G' h => by cases h.1)
  · exact ⟨rfl, h1, h2, h3⟩
  obtain ⟨h, FX, k140, hl⟩ := h
  cases h
  have FH := FH.trans FX (fun _ q => q)
  have k157 := FX.get (by decide) k157
  have hm : hM T Ga7 := hR.1.2.1.fq (fun j hj => FH.2 j (by omega))
  refine V_aload_n rfl (by first | rfl | assumption) ?_
  refine V_aload_n rfl (by first | rfl | assumption) ?_
  refine V_getf rfl rfl rfl (by repeat (first | exact hup_eq | assumption | refine Eq.trans (hup_ne (by first | assumption | exact Ne.symm (by assumption) | decide | omega)) ?_)) (by first | rfl | assumption) ?_
  refine V_bipush (v := nI 13) rfl (by decide) ?_
  refine V_callS (M' := mX12_row) (mc := 0) (ms := 0) (bc' := 0) (bs' := 0) rfl cw_X12_267 is_X12_row rfl (Nat.le_of_ble_eq_true rfl) ⟨Nat.le_of_ble_eq_true rfl, Nat.le_of_ble_eq_true rfl⟩ ⟨Nat.le_of_ble_eq_true rfl, Nat.le_of_ble_eq_true rfl⟩ (As := [.int (nI 13)]) (c_mrow (Q := fun o G9 => o = .inl (some (.int (nI (32 * 13)))) ∧ G9 = Ga7) ⟨rfl, rfl⟩) (fun o G9 h => ?_) (fun E G' h => by cases h.1)
  obtain ⟨h, h9⟩ := h
  cases h
  rw [h9]
  clear h9
  refine V_callV (M' := mX12_hashEnd) (mc := 0) (ms := 0) (bc' := 0) (bs' := 0) rfl cw_X12_284 iv_X12_hashEnd (by repeat (first | exact hup_eq | assumption | refine Eq.trans (hup_ne (by first | assumption | exact Ne.symm (by assumption) | decide | omega)) ?_)) rfl rfl (Nat.le_of_ble_eq_true rfl) ⟨Nat.le_of_ble_eq_true rfl, Nat.le_of_ble_eq_true rfl⟩ ⟨Nat.le_of_ble_eq_true rfl, Nat.le_of_ble_eq_true rfl⟩ (As := [.ref 157, .int (nI (32 * 13))]) (c_mhend (T := T) (l := lst (rw9 (S.1 0) 4) 9 ++ lst (rw9 (S.1 0) 5) 9 ++ lst (sft R (32 * 10)) 32 ++ lst (sft R (32 * 9)) 32 ++ lst (sft R (32 * 16)) 32 ++ lst (sft R (32 * 11)) 32) (Q := fun o Ga8 => o = .inl none ∧ FP (fun j => PH j ∨ j = 157) Ga7 Ga8 ∧ hM T Ga8 ∧ mhl [] Ga8 ∧ Ga8.1 157 = some (YA 640 (ovw R (32 * 13) 32 (hL T (lst (rw9 (S.1 0) 4) 9 ++ lst (rw9 (S.1 0) 5) 9 ++ lst (sft R (32 * 10)) 32 ++ lst (sft R (32 * 9)) 32 ++ lst (sft R (32 * 16)) 32 ++ lst (sft R (32 * 11)) 32))))) k140 hm hl (by simp only [List.length_append, List.length_singleton, lst_len]; decide) k157 (Or.inl rfl) (by decide) (fun G4 h1 h2 h3 h4 => ⟨rfl, h1, h2, h3, h4⟩)) (fun o Ga8 h => ?_) (fun E G' h => by cases h.1)
  obtain ⟨h, FE, hm, hl, k157⟩ := h
  cases h
  have k140 := FE.get (by unfold PH; decide) k140
  have F1 : FP PD G Ga8 := (FH.sub (fun _ q => by unfold PD PH; omega)).trans FE (fun _ q => Or.inr q)
  clear FH FE FX
  have e13 : hL T (lst (rw9 (S.1 0) 4) 9 ++ lst (rw9 (S.1 0) 5) 9 ++ lst (sft R (32 * 10)) 32 ++ lst (sft R (32 * 9)) 32 ++ lst (sft R (32 * 16)) 32 ++ lst (sft R (32 * 11)) 32) = agr T (rw9 (S.1 0) 4) (rw9 (S.1 0) 5) (sft R (32 * 10)) (sft R (32 * 9)) (sft R (32 * 16)) (sft R (32 * 11)) := rfl
  rw [e13] at k157
  obtain ⟨H, hH⟩ : ∃ H, H = agr T (rw9 (S.1 0) 4) (rw9 (S.1 0) 5) (sft R (32 * 10)) (sft R (32 * 9)) (sft R (32 * 16)) (sft R (32 * 11)) := ⟨_, rfl⟩
  rw [← hH] at k157 hq
  clear e13
  have hHb : ∀ j, H j < 256 := fun j => by rw [hH]; exact HSH_lt _ _ _ j
  clear hH
  obtain ⟨R1, hR1⟩ : ∃ R1, R1 = ovw R (32 * 13) 32 H := ⟨_, rfl⟩
  rw [← hR1] at k157 hq
  have hRP1 : rowP S R1 := by rw [hR1]; exact hRP.sc (by decide) (fun j _ => hHb j)
  have hRb1 := hRP1.1
  refine V_aload_n rfl (by rfl) ?_
  refine V_callV (M' := mX12_hashBegin) (mc := 0) (ms := 0) (bc' := 0) (bs' := 0) rfl cw_X12_278 iv_X12_hashBegin (by repeat (first | exact hup_eq | assumption | refine Eq.trans (hup_ne (by first | assumption | exact Ne.symm (by assumption) | decide | omega)) ?_)) rfl rfl (Nat.le_of_ble_eq_true rfl) ⟨Nat.le_of_ble_eq_true rfl, Nat.le_of_ble_eq_true rfl⟩ ⟨Nat.le_of_ble_eq_true rfl, Nat.le_of_ble_eq_true rfl⟩ (As := []) (c_mhbegin (Q := fun o Ga9 => o = .inl none ∧ Ga9 = hup Ga8 140 (MO th ta os (nI ([] : List Nat).length) ps rs)) k140 ⟨rfl, rfl⟩) (fun o Ga9 h => ?_) (fun E G' h => by cases h.1)
  obtain ⟨h, hG⟩ := h
  cases h
  have FX : FP (fun j => j = 140 ∨ j = 149) Ga8 Ga9 := by rw [hG]; exact FP.rf.hup (Or.inl rfl)
  have k140 : Ga9.1 140 = some (MO th ta os (nI ([] : List Nat).length) ps rs) := by rw [hG]; exact hup_eq
  have hl : mhl [] Ga9 := hl.fp (by rw [hG]; exact hup_ne (by decide))
  clear hG
  have FH := FX
  have k157 := FX.get (by decide) k157
  refine V_aload_n rfl (by first | rfl | assumption) ?_
  refine V_aload_n rfl (by first | rfl | assumption) ?_
  refine V_getf rfl rfl rfl (by repeat (first | exact hup_eq | assumption | refine Eq.trans (hup_ne (by first | assumption | exact Ne.symm (by assumption) | decide | omega)) ?_)) (by first | rfl | assumption) ?_
  refine V_bipush (v := nI 12) rfl (by decide) ?_
  refine V_callS (M' := mX12_row) (mc := 0) (ms := 0) (bc' := 0) (bs' := 0) rfl cw_X12_267 is_X12_row rfl (Nat.le_of_ble_eq_true rfl) ⟨Nat.le_of_ble_eq_true rfl, Nat.le_of_ble_eq_true rfl⟩ ⟨Nat.le_of_ble_eq_true rfl, Nat.le_of_ble_eq_true rfl⟩ (As := [.int (nI 12)]) (c_mrow (Q := fun o G9 => o = .inl (some (.int (nI (32 * 12)))) ∧ G9 = Ga9) ⟨rfl, rfl⟩) (fun o G9 h => ?_) (fun E G' h => by cases h.1)
  obtain ⟨h, h9⟩ := h
  cases h
  rw [h9]
  clear h9
  refine V_bipush (v := nI 32) rfl (by decide) ?_
  have s12 : ∀ j, j < 32 → sft R1 (32 * 12) j = sft R (32 * 12) j := fun j hj => by rw [hR1]; exact ovw_out (by omega)
  have s13 : ∀ j, j < 32 → sft R1 (32 * 13) j = H j := fun j hj => by rw [hR1]; exact ovw_in hj
  refine V_callV (M' := mX12_hashAdd) (mc := 0) (ms := 0) (bc' := 0) (bs' := 0) rfl cw_X12_281 iv_X12_hashAdd (by repeat (first | exact hup_eq | assumption | refine Eq.trans (hup_ne (by first | assumption | exact Ne.symm (by assumption) | decide | omega)) ?_)) rfl rfl (Nat.le_of_ble_eq_true rfl) ⟨Nat.le_of_ble_eq_true rfl, Nat.le_of_ble_eq_true rfl⟩ ⟨Nat.le_of_ble_eq_true rfl, Nat.le_of_ble_eq_true rfl⟩ (As := [.ref 157, .int (nI (32 * 12)), .int (nI 32)]) (c_mhadd (l := []) (Q := fun o Ga10 => o = .inl none ∧ FP (fun j => j = 140 ∨ j = 149) Ga9 Ga10 ∧ Ga10.1 140 = some (MO th ta os (nI (lst (sft R (32 * 12)) 32).length) ps rs) ∧ mhl (lst (sft R (32 * 12)) 32) Ga10) k140 hl k157 (by decide) (by decide) (by decide) hRb1 (by simp only [List.length_append, List.length_nil, List.length_singleton, lst_len]; decide) (fun G9 h1 h2 h3 => ?_)) (fun o Ga10 h => ?_) (fun E G' h => by cases h.1)
  · rw [List.nil_append, lst_congr s12] at h2 h3
    exact ⟨rfl, h1, h2, h3⟩
  obtain ⟨h, FX, k140, hl⟩ := h
  cases h
  have FH := FH.trans FX (fun _ q => q)
  have k157 := FX.get (by decide) k157
  refine V_aload_n rfl (by first | rfl | assumption) ?_
  refine V_aload_n rfl (by first | rfl | assumption) ?_
  refine V_getf rfl rfl rfl (by repeat (first | exact hup_eq | assumption | refine Eq.trans (hup_ne (by first | assumption | exact Ne.symm (by assumption) | decide | omega)) ?_)) (by first | rfl | assumption) ?_
  refine V_bipush (v := nI 13) rfl (by decide) ?_
  refine V_callS (M' := mX12_row) (mc := 0) (ms := 0) (bc' := 0) (bs' := 0) rfl cw_X12_267 is_X12_row rfl (Nat.le_of_ble_eq_true rfl) ⟨Nat.le_of_ble_eq_true rfl, Nat.le_of_ble_eq_true rfl⟩ ⟨Nat.le_of_ble_eq_true rfl, Nat.le_of_ble_eq_true rfl⟩ (As := [.int (nI 13)]) (c_mrow (Q := fun o G9 => o = .inl (some (.int (nI (32 * 13)))) ∧ G9 = Ga10) ⟨rfl, rfl⟩) (fun o G9 h => ?_) (fun E G' h => by cases h.1)
  obtain ⟨h, h9⟩ := h
  cases h
  rw [h9]
  clear h9
  refine V_bipush (v := nI 32) rfl (by decide) ?_
  refine V_callV (M' := mX12_hashAdd) (mc := 0) (ms := 0) (bc' := 0) (bs' := 0) rfl cw_X12_281 iv_X12_hashAdd (by repeat (first | exact hup_eq | assumption | refine Eq.trans (hup_ne (by first | assumption | exact Ne.symm (by assumption) | decide | omega)) ?_)) rfl rfl (Nat.le_of_ble_eq_true rfl) ⟨Nat.le_of_ble_eq_true rfl, Nat.le_of_ble_eq_true rfl⟩ ⟨Nat.le_of_ble_eq_true rfl, Nat.le_of_ble_eq_true rfl⟩ (As := [.ref 157, .int (nI (32 * 13)), .int (nI 32)]) (c_mhadd (l := lst (sft R (32 * 12)) 32) (Q := fun o Ga11 => o = .inl none ∧ FP (fun j => j = 140 ∨ j = 149) Ga10 Ga11 ∧ Ga11.1 140 = some (MO th ta os (nI (lst (sft R (32 * 12)) 32 ++ lst H 32).length) ps rs) ∧ mhl (lst (sft R (32 * 12)) 32 ++ lst H 32) Ga11) k140 hl k157 (by decide) (by decide) (by decide) hRb1 (by simp only [List.length_append, List.length_nil, List.length_singleton, lst_len]; decide) (fun G9 h1 h2 h3 => ?_)) (fun o Ga11 h => ?_) (fun E G' h => by cases h.1)
  · rw [lst_congr s13] at h2 h3
    exact ⟨rfl, h1, h2, h3⟩
  obtain ⟨h, FX, k140, hl⟩ := h
  cases h
  have FH := FH.trans FX (fun _ q => q)
  have k157 := FX.get (by decide) k157
  have hm : hM T Ga11 := hm.fq (fun j hj => FH.2 j (by omega))
  refine V_aload_n rfl (by first | rfl | assumption) ?_
  refine V_aload_n rfl (by first | rfl | assumption) ?_
  refine V_getf rfl rfl rfl (by repeat (first | exact hup_eq | assumption | refine Eq.trans (hup_ne (by first | assumption | exact Ne.symm (by assumption) | decide | omega)) ?_)) (by first | rfl | assumption) ?_
  refine V_bipush (v := nI 14) rfl (by decide) ?_
  refine V_callS (M' := mX12_row) (mc := 0) (ms := 0) (bc' := 0) (bs' := 0) rfl cw_X12_267 is_X12_row rfl (Nat.le_of_ble_eq_true rfl) ⟨Nat.le_of_ble_eq_true rfl, Nat.le_of_ble_eq_true rfl⟩ ⟨Nat.le_of_ble_eq_true rfl, Nat.le_of_ble_eq_true rfl⟩ (As := [.int (nI 14)]) (c_mrow (Q := fun o G9 => o = .inl (some (.int (nI (32 * 14)))) ∧ G9 = Ga11) ⟨rfl, rfl⟩) (fun o G9 h => ?_) (fun E G' h => by cases h.1)
  obtain ⟨h, h9⟩ := h
  cases h
  rw [h9]
  clear h9
  refine V_callV (M' := mX12_hashEnd) (mc := 0) (ms := 0) (bc' := 0) (bs' := 0) rfl cw_X12_284 iv_X12_hashEnd (by repeat (first | exact hup_eq | assumption | refine Eq.trans (hup_ne (by first | assumption | exact Ne.symm (by assumption) | decide | omega)) ?_)) rfl rfl (Nat.le_of_ble_eq_true rfl) ⟨Nat.le_of_ble_eq_true rfl, Nat.le_of_ble_eq_true rfl⟩ ⟨Nat.le_of_ble_eq_true rfl, Nat.le_of_ble_eq_true rfl⟩ (As := [.ref 157, .int (nI (32 * 14))]) (c_mhend (T := T) (l := lst (sft R (32 * 12)) 32 ++ lst H 32) (Q := fun o Ga12 => o = .inl none ∧ FP (fun j => PH j ∨ j = 157) Ga11 Ga12 ∧ hM T Ga12 ∧ mhl [] Ga12 ∧ Ga12.1 157 = some (YA 640 (ovw R1 (32 * 14) 32 (hL T (lst (sft R (32 * 12)) 32 ++ lst H 32))))) k140 hm hl (by simp only [List.length_append, List.length_singleton, lst_len]; decide) k157 (Or.inl rfl) (by decide) (fun G4 h1 h2 h3 h4 => ⟨rfl, h1, h2, h3, h4⟩)) (fun o Ga12 h => ?_) (fun E G' h => by cases h.1)
  obtain ⟨h, FE, hm, hl, k157⟩ := h
  cases h
  have k140 := FE.get (by unfold PH; decide) k140
  have F2 : FP PD Ga8 Ga12 := (FH.sub (fun _ q => by unfold PD PH; omega)).trans FE (fun _ q => Or.inr q)
  have FF := F1.trans F2 (fun _ q => q)
  have e14 : hL T (lst (sft R (32 * 12)) 32 ++ lst H 32) = prf T (sft R (32 * 12)) H := rfl
  rw [e14] at k157
  have hRP2 : rowP S (ovw R1 (32 * 14) 32 (prf T (sft R (32 * 12)) H)) := hRP1.sc (by decide) (fun j _ => HSH_lt _ _ _ j)
  refine V_vret rfl rfl (hq _ _ FF ?_ k140 k157)
  exact hR.sr (hR.1.ha hm hl (fun j hj => FF.2 j (by unfold PD PH; omega))) ⟨_, k157, hRP2⟩ (fun j a b => FF.2 j (by unfold PD PH; omega))
set_option maxHeartbeats 16000000 in
theorem c_mdigest1 {R : Nat → Nat} (g140 : G.1 140 = some (MO th ta os hs ps rs)) (hR : RM T S G) (g157 : G.1 157 = some (YA 640 R)) (hRP : rowP S R)
    (hq : ∀ G' hs', FP PD G G' → RM T S G' → G'.1 140 = some (MO th ta os hs' ps rs) → G'.1 157 = some (YA 640 (ovw (ovw R (32 * 13) 32 (agr T (rw9 (S.1 1) 5) (rw9 (S.1 1) 4) (sft R (32 * 10)) (sft R (32 * 16)) (sft R (32 * 9)) (sft R (32 * 11)))) (32 * 14) 32 (prf T (sft R (32 * 12)) (agr T (rw9 (S.1 1) 5) (rw9 (S.1 1) 4) (sft R (32 * 10)) (sft R (32 * 16)) (sft R (32 * 9)) (sft R (32 * 11)))))) → Q (.inl none) G') : C K 0 0 mX12_digest [.ref 140, .int (nI 1), .int (nI 16), .int (nI 9)] G Q := by
  obtain ⟨I, k159, hIb, hI⟩ := id hR.2.2.2.1
  have hRb := hRP.1
  have hl := hR.1.2.2.1
  have k157 := g157
  have hi1 : ∀ j, j < 9 → sft I (27) j = (rw9 (S.1 1) 5) j := fun j hj => (hI 1 (by decide) j hj).2
  have hi2 : ∀ j, j < 9 → sft I (18) j = (rw9 (S.1 1) 4) j := fun j hj => (hI 1 (by decide) j hj).1
  refine C_of okX12_digest (Nat.le_of_ble_eq_true rfl) ?_
  refine V_aload_n rfl (by rfl) ?_
  refine V_callV (M' := mX12_hashBegin) (mc := 0) (ms := 0) (bc' := 0) (bs' := 0) rfl cw_X12_278 iv_X12_hashBegin (by repeat (first | exact hup_eq | assumption | refine Eq.trans (hup_ne (by first | assumption | exact Ne.symm (by assumption) | decide | omega)) ?_)) rfl rfl (Nat.le_of_ble_eq_true rfl) ⟨Nat.le_of_ble_eq_true rfl, Nat.le_of_ble_eq_true rfl⟩ ⟨Nat.le_of_ble_eq_true rfl, Nat.le_of_ble_eq_true rfl⟩ (As := []) (c_mhbegin (Q := fun o Ga1 => o = .inl none ∧ Ga1 = hup G 140 (MO th ta os (nI ([] : List Nat).length) ps rs)) g140 ⟨rfl, rfl⟩) (fun o Ga1 h => ?_) (fun E G' h => by cases h.1)
  obtain ⟨h, hG⟩ := h
  cases h
  have FX : FP (fun j => j = 140 ∨ j = 149) G Ga1 := by rw [hG]; exact FP.rf.hup (Or.inl rfl)
  have k140 : Ga1.1 140 = some (MO th ta os (nI ([] : List Nat).length) ps rs) := by rw [hG]; exact hup_eq
  have hl : mhl [] Ga1 := hl.fp (by rw [hG]; exact hup_ne (by decide))
  clear hG
  have FH := FX
  have k157 := FX.get (by decide) k157
  have k159 := FX.get (by decide) k159
  refine V_aload_n rfl (by first | rfl | assumption) ?_
  refine V_aload_n rfl (by first | rfl | assumption) ?_
  refine V_getf rfl rfl rfl (by repeat (first | exact hup_eq | assumption | refine Eq.trans (hup_ne (by first | assumption | exact Ne.symm (by assumption) | decide | omega)) ?_)) (by first | rfl | assumption) ?_
  refine V_iload_n rfl (by first | rfl | assumption) ?_
  refine V_if_neN rfl (by decide) (fun h => ?_) (fun h => absurd h (by decide))
  refine V_bipush (v := nI 27) rfl (by decide) ?_
  refine V_bipush (v := nI 9) rfl (by decide) ?_
  refine V_callV (M' := mX12_hashAdd) (mc := 0) (ms := 0) (bc' := 0) (bs' := 0) rfl cw_X12_281 iv_X12_hashAdd (by repeat (first | exact hup_eq | assumption | refine Eq.trans (hup_ne (by first | assumption | exact Ne.symm (by assumption) | decide | omega)) ?_)) rfl rfl (Nat.le_of_ble_eq_true rfl) ⟨Nat.le_of_ble_eq_true rfl, Nat.le_of_ble_eq_true rfl⟩ ⟨Nat.le_of_ble_eq_true rfl, Nat.le_of_ble_eq_true rfl⟩ (As := [.ref 159, .int (nI (27)), .int (nI 9)]) (c_mhadd (l := []) (Q := fun o Ga2 => o = .inl none ∧ FP (fun j => j = 140 ∨ j = 149) Ga1 Ga2 ∧ Ga2.1 140 = some (MO th ta os (nI (lst (rw9 (S.1 1) 5) 9).length) ps rs) ∧ mhl (lst (rw9 (S.1 1) 5) 9) Ga2) k140 hl k159 (by decide) (by decide) (by decide) hIb (by simp only [List.length_append, List.length_nil, List.length_singleton, lst_len]; decide) (fun G9 h1 h2 h3 => ?_)) (fun o Ga2 h => ?_) (fun E G' h => by cases h.1)
  · rw [List.nil_append, lst_congr hi1] at h2 h3
    exact ⟨rfl, h1, h2, h3⟩
  obtain ⟨h, FX, k140, hl⟩ := h
  cases h
  have FH := FH.trans FX (fun _ q => q)
  have k157 := FX.get (by decide) k157
  have k159 := FX.get (by decide) k159
  refine V_aload_n rfl (by first | rfl | assumption) ?_
  refine V_aload_n rfl (by first | rfl | assumption) ?_
  refine V_getf rfl rfl rfl (by repeat (first | exact hup_eq | assumption | refine Eq.trans (hup_ne (by first | assumption | exact Ne.symm (by assumption) | decide | omega)) ?_)) (by first | rfl | assumption) ?_
  refine V_iload_n rfl (by first | rfl | assumption) ?_
  refine V_if_neN rfl (by decide) (fun h => ?_) (fun h => absurd h (by decide))
  refine V_bipush (v := nI 18) rfl (by decide) ?_
  refine V_bipush (v := nI 9) rfl (by decide) ?_
  refine V_callV (M' := mX12_hashAdd) (mc := 0) (ms := 0) (bc' := 0) (bs' := 0) rfl cw_X12_281 iv_X12_hashAdd (by repeat (first | exact hup_eq | assumption | refine Eq.trans (hup_ne (by first | assumption | exact Ne.symm (by assumption) | decide | omega)) ?_)) rfl rfl (Nat.le_of_ble_eq_true rfl) ⟨Nat.le_of_ble_eq_true rfl, Nat.le_of_ble_eq_true rfl⟩ ⟨Nat.le_of_ble_eq_true rfl, Nat.le_of_ble_eq_true rfl⟩ (As := [.ref 159, .int (nI (18)), .int (nI 9)]) (c_mhadd (l := lst (rw9 (S.1 1) 5) 9) (Q := fun o Ga3 => o = .inl none ∧ FP (fun j => j = 140 ∨ j = 149) Ga2 Ga3 ∧ Ga3.1 140 = some (MO th ta os (nI (lst (rw9 (S.1 1) 5) 9 ++ lst (rw9 (S.1 1) 4) 9).length) ps rs) ∧ mhl (lst (rw9 (S.1 1) 5) 9 ++ lst (rw9 (S.1 1) 4) 9) Ga3) k140 hl k159 (by decide) (by decide) (by decide) hIb (by simp only [List.length_append, List.length_nil, List.length_singleton, lst_len]; decide) (fun G9 h1 h2 h3 => ?_)) (fun o Ga3 h => ?_) (fun E G' h => by cases h.1)
  · rw [lst_congr hi2] at h2 h3
    exact ⟨rfl, h1, h2, h3⟩
  obtain ⟨h, FX, k140, hl⟩ := h
  cases h
  have FH := FH.trans FX (fun _ q => q)
  have k157 := FX.get (by decide) k157
  refine V_aload_n rfl (by first | rfl | assumption) ?_
  refine V_aload_n rfl (by first | rfl | assumption) ?_
  refine V_getf rfl rfl rfl (by repeat (first | exact hup_eq | assumption | refine Eq.trans (hup_ne (by first | assumption | exact Ne.symm (by assumption) | decide | omega)) ?_)) (by first | rfl | assumption) ?_
  refine V_bipush (v := nI 10) rfl (by decide) ?_
  refine V_callS (M' := mX12_row) (mc := 0) (ms := 0) (bc' := 0) (bs' := 0) rfl cw_X12_267 is_X12_row rfl (Nat.le_of_ble_eq_true rfl) ⟨Nat.le_of_ble_eq_true rfl, Nat.le_of_ble_eq_true rfl⟩ ⟨Nat.le_of_ble_eq_true rfl, Nat.le_of_ble_eq_true rfl⟩ (As := [.int (nI 10)]) (c_mrow (Q := fun o G9 => o = .inl (some (.int (nI (32 * 10)))) ∧ G9 = Ga3) ⟨rfl, rfl⟩) (fun o G9 h => ?_) (fun E G' h => by cases h.1)
  obtain ⟨h, h9⟩ := h
  cases h
  rw [h9]
  clear h9
  refine V_bipush (v := nI 32) rfl (by decide) ?_
  refine V_callV (M' := mX12_hashAdd) (mc := 0) (ms := 0) (bc' := 0) (bs' := 0) rfl cw_X12_281 iv_X12_hashAdd (by repeat (first | exact hup_eq | assumption | refine Eq.trans (hup_ne (by first | assumption | exact Ne.symm (by assumption) | decide | omega)) ?_)) rfl rfl (Nat.le_of_ble_eq_true rfl) ⟨Nat.le_of_ble_eq_true rfl, Nat.le_of_ble_eq_true rfl⟩ ⟨Nat.le_of_ble_eq_true rfl, Nat.le_of_ble_eq_true rfl⟩ (As := [.ref 157, .int (nI (32 * 10)), .int (nI 32)]) (c_mhadd (l := lst (rw9 (S.1 1) 5) 9 ++ lst (rw9 (S.1 1) 4) 9) (Q := fun o Ga4 => o = .inl none ∧ FP (fun j => j = 140 ∨ j = 149) Ga3 Ga4 ∧ Ga4.1 140 = some (MO th ta os (nI (lst (rw9 (S.1 1) 5) 9 ++ lst (rw9 (S.1 1) 4) 9 ++ lst (sft R (32 * 10)) 32).length) ps rs) ∧ mhl (lst (rw9 (S.1 1) 5) 9 ++ lst (rw9 (S.1 1) 4) 9 ++ lst (sft R (32 * 10)) 32) Ga4) k140 hl k157 (by decide) (by decide) (by decide) hRb (by simp only [List.length_append, List.length_nil, List.length_singleton, lst_len]; decide) (fun G9 h1 h2 h3 => ?_)) (fun o Ga4 h => ?_) (fun E G' h => by cases h.1)
  · exact ⟨rfl, h1, h2, h3⟩
  obtain ⟨h, FX, k140, hl⟩ := h
  cases h
  have FH := FH.trans FX (fun _ q => q)
  have k157 := FX.get (by decide) k157
  refine V_aload_n rfl (by first | rfl | assumption) ?_
  refine V_aload_n rfl (by first | rfl | assumption) ?_
  refine V_getf rfl rfl rfl (by repeat (first | exact hup_eq | assumption | refine Eq.trans (hup_ne (by first | assumption | exact Ne.symm (by assumption) | decide | omega)) ?_)) (by first | rfl | assumption) ?_
  refine V_iload_n rfl (by first | rfl | assumption) ?_
  refine V_callS (M' := mX12_row) (mc := 0) (ms := 0) (bc' := 0) (bs' := 0) rfl cw_X12_267 is_X12_row rfl (Nat.le_of_ble_eq_true rfl) ⟨Nat.le_of_ble_eq_true rfl, Nat.le_of_ble_eq_true rfl⟩ ⟨Nat.le_of_ble_eq_true rfl, Nat.le_of_ble_eq_true rfl⟩ (As := [.int (nI 16)]) (c_mrow (Q := fun o G9 => o = .inl (some (.int (nI (32 * 16)))) ∧ G9 = Ga4) ⟨rfl, rfl⟩) (fun o G9 h => ?_) (fun E G' h => by cases h.1)
  obtain ⟨h, h9⟩ := h
  cases h
  rw [h9]
  clear h9
  refine V_bipush (v := nI 32) rfl (by decide) ?_
  refine V_callV (M' := mX12_hashAdd) (mc := 0) (ms := 0) (bc' := 0) (bs' := 0) rfl cw_X12_281 iv_X12_hashAdd (by repeat (first | exact hup_eq | assumption | refine Eq.trans (hup_ne (by first | assumption | exact Ne.symm (by assumption) | decide | omega)) ?_)) rfl rfl (Nat.le_of_ble_eq_true rfl) ⟨Nat.le_of_ble_eq_true rfl, Nat.le_of_ble_eq_true rfl⟩ ⟨Nat.le_of_ble_eq_true rfl, Nat.le_of_ble_eq_true rfl⟩ (As := [.ref 157, .int (nI (32 * 16)), .int (nI 32)]) (c_mhadd (l := lst (rw9 (S.1 1) 5) 9 ++ lst (rw9 (S.1 1) 4) 9 ++ lst (sft R (32 * 10)) 32) (Q := fun o Ga5 => o = .inl none ∧ FP (fun j => j = 140 ∨ j = 149) Ga4 Ga5 ∧ Ga5.1 140 = some (MO th ta os (nI (lst (rw9 (S.1 1) 5) 9 ++ lst (rw9 (S.1 1) 4) 9 ++ lst (sft R (32 * 10)) 32 ++ lst (sft R (32 * 16)) 32).length) ps rs) ∧ mhl (lst (rw9 (S.1 1) 5) 9 ++ lst (rw9 (S.1 1) 4) 9 ++ lst (sft R (32 * 10)) 32 ++ lst (sft R (32 * 16)) 32) Ga5) k140 hl k157 (by decide) (by decide) (by decide) hRb (by simp only [List.length_append, List.length_nil, List.length_singleton, lst_len]; decide) (fun G9 h1 h2 h3 => ?_)) (fun o Ga5 h => ?_) (fun E G' h => by cases h.1)
  · exact ⟨rfl, h1, h2, h3⟩
  obtain ⟨h, FX, k140, hl⟩ := h
  cases h
  have FH := FH.trans FX (fun _ q => q)
  have k157 := FX.get (by decide) k157
  refine V_aload_n rfl (by first | rfl | assumption) ?_
  refine V_aload_n rfl (by first | rfl | assumption) ?_
  refine V_getf rfl rfl rfl (by repeat (first | exact hup_eq | assumption | refine Eq.trans (hup_ne (by first | assumption | exact Ne.symm (by assumption) | decide | omega)) ?_)) (by first | rfl | assumption) ?_
  refine V_iload_n rfl (by first | rfl | assumption) ?_
  refine V_callS (M' := mX12_row) (mc := 0) (ms := 0) (bc' := 0) (bs' := 0) rfl cw_X12_267 is_X12_row rfl (Nat.le_of_ble_eq_true rfl) ⟨Nat.le_of_ble_eq_true rfl, Nat.le_of_ble_eq_true rfl⟩ ⟨Nat.le_of_ble_eq_true rfl, Nat.le_of_ble_eq_true rfl⟩ (As := [.int (nI 9)]) (c_mrow (Q := fun o G9 => o = .inl (some (.int (nI (32 * 9)))) ∧ G9 = Ga5) ⟨rfl, rfl⟩) (fun o G9 h => ?_) (fun E G' h => by cases h.1)
  obtain ⟨h, h9⟩ := h
  cases h
  rw [h9]
  clear h9
  refine V_bipush (v := nI 32) rfl (by decide) ?_
  refine V_callV (M' := mX12_hashAdd) (mc := 0) (ms := 0) (bc' := 0) (bs' := 0) rfl cw_X12_281 iv_X12_hashAdd (by repeat (first | exact hup_eq | assumption | refine Eq.trans (hup_ne (by first | assumption | exact Ne.symm (by assumption) | decide | omega)) ?_)) rfl rfl (Nat.le_of_ble_eq_true rfl) ⟨Nat.le_of_ble_eq_true rfl, Nat.le_of_ble_eq_true rfl⟩ ⟨Nat.le_of_ble_eq_true rfl, Nat.le_of_ble_eq_true rfl⟩ (As := [.ref 157, .int (nI (32 * 9)), .int (nI 32)]) (c_mhadd (l := lst (rw9 (S.1 1) 5) 9 ++ lst (rw9 (S.1 1) 4) 9 ++ lst (sft R (32 * 10)) 32 ++ lst (sft R (32 * 16)) 32) (Q := fun o Ga6 => o = .inl none ∧ FP (fun j => j = 140 ∨ j = 149) Ga5 Ga6 ∧ Ga6.1 140 = some (MO th ta os (nI (lst (rw9 (S.1 1) 5) 9 ++ lst (rw9 (S.1 1) 4) 9 ++ lst (sft R (32 * 10)) 32 ++ lst (sft R (32 * 16)) 32 ++ lst (sft R (32 * 9)) 32).length) ps rs) ∧ mhl (lst (rw9 (S.1 1) 5) 9 ++ lst (rw9 (S.1 1) 4) 9 ++ lst (sft R (32 * 10)) 32 ++ lst (sft R (32 * 16)) 32 ++ lst (sft R (32 * 9)) 32) Ga6) k140 hl k157 (by decide) (by decide) (by decide) hRb (by simp only [List.length_append, List.length_nil, List.length_singleton, lst_len]; decide) (fun G9 h1 h2 h3 => ?_)) (fun o Ga6 h => ?_) (fun E G' h => by cases h.1)
  · exact ⟨rfl, h1, h2, h3⟩
  obtain ⟨h, FX, k140, hl⟩ := h
  cases h
  have FH := FH.trans FX (fun _ q => q)
  have k157 := FX.get (by decide) k157
  refine V_aload_n rfl (by first | rfl | assumption) ?_
  refine V_aload_n rfl (by first | rfl | assumption) ?_
  refine V_getf rfl rfl rfl (by repeat (first | exact hup_eq | assumption | refine Eq.trans (hup_ne (by first | assumption | exact Ne.symm (by assumption) | decide | omega)) ?_)) (by first | rfl | assumption) ?_
  refine V_bipush (v := nI 11) rfl (by decide) ?_
  refine V_callS (M' := mX12_row) (mc := 0) (ms := 0) (bc' := 0) (bs' := 0) rfl cw_X12_267 is_X12_row rfl (Nat.le_of_ble_eq_true rfl) ⟨Nat.le_of_ble_eq_true rfl, Nat.le_of_ble_eq_true rfl⟩ ⟨Nat.le_of_ble_eq_true rfl, Nat.le_of_ble_eq_true rfl⟩ (As := [.int (nI 11)]) (c_mrow (Q := fun o G9 => o = .inl (some (.int (nI (32 * 11)))) ∧ G9 = Ga6) ⟨rfl, rfl⟩) (fun o G9 h => ?_) (fun E G' h => by cases h.1)
  obtain ⟨h, h9⟩ := h
  cases h
  rw [h9]
  clear h9
  refine V_bipush (v := nI 32) rfl (by decide) ?_
  refine V_callV (M' := mX12_hashAdd) (mc := 0) (ms := 0) (bc' := 0) (bs' := 0) rfl cw_X12_281 iv_X12_hashAdd (by repeat (first | exact hup_eq | assumption | refine Eq.trans (hup_ne (by first | assumption | exact Ne.symm (by assumption) | decide | omega)) ?_)) rfl rfl (Nat.le_of_ble_eq_true rfl) ⟨Nat.le_of_ble_eq_true rfl, Nat.le_of_ble_eq_true rfl⟩ ⟨Nat.le_of_ble_eq_true rfl, Nat.le_of_ble_eq_true rfl⟩ (As := [.ref 157, .int (nI (32 * 11)), .int (nI 32)]) (c_mhadd (l := lst (rw9 (S.1 1) 5) 9 ++ lst (rw9 (S.1 1) 4) 9 ++ lst (sft R (32 * 10)) 32 ++ lst (sft R (32 * 16)) 32 ++ lst (sft R (32 * 9)) 32) (Q := fun o Ga7 => o = .inl none ∧ FP (fun j => j = 140 ∨ j = 149) Ga6 Ga7 ∧ Ga7.1 140 = some (MO th ta os (nI (lst (rw9 (S.1 1) 5) 9 ++ lst (rw9 (S.1 1) 4) 9 ++ lst (sft R (32 * 10)) 32 ++ lst (sft R (32 * 16)) 32 ++ lst (sft R (32 * 9)) 32 ++ lst (sft R (32 * 11)) 32).length) ps rs) ∧ mhl (lst (rw9 (S.1 1) 5) 9 ++ lst (rw9 (S.1 1) 4) 9 ++ lst (sft R (32 * 10)) 32 ++ lst (sft R (32 * 16)) 32 ++ lst (sft R (32 * 9)) 32 ++ lst (sft R (32 * 11)) 32) Ga7) k140 hl k157 (by decide) (by decide) (by decide) hRb (by simp only [List.length_append, List.length_nil, List.length_singleton, lst_len]; decide) (fun G9 h1 h2 h3 => ?_)) (fun o Ga7 h => ?_) (fun E G' h => by cases h.1)
  · exact ⟨rfl, h1, h2, h3⟩
  obtain ⟨h, FX, k140, hl⟩ := h
  cases h
  have FH := FH.trans FX (fun _ q => q)
  have k157 := FX.get (by decide) k157
  have hm : hM T Ga7 := hR.1.2.1.fq (fun j hj => FH.2 j (by omega))
  refine V_aload_n rfl (by first | rfl | assumption) ?_
  refine V_aload_n rfl (by first | rfl | assumption) ?_
  refine V_getf rfl rfl rfl (by repeat (first | exact hup_eq | assumption | refine Eq.trans (hup_ne (by first | assumption | exact Ne.symm (by assumption) | decide | omega)) ?_)) (by first | rfl | assumption) ?_
  refine V_bipush (v := nI 13) rfl (by decide) ?_
  refine V_callS (M' := mX12_row) (mc := 0) (ms := 0) (bc' := 0) (bs' := 0) rfl cw_X12_267 is_X12_row rfl (Nat.le_of_ble_eq_true rfl) ⟨Nat.le_of_ble_eq_true rfl, Nat.le_of_ble_eq_true rfl⟩ ⟨Nat.le_of_ble_eq_true rfl, Nat.le_of_ble_eq_true rfl⟩ (As := [.int (nI 13)]) (c_mrow (Q := fun o G9 => o = .inl (some (.int (nI (32 * 13)))) ∧ G9 = Ga7) ⟨rfl, rfl⟩) (fun o G9 h => ?_) (fun E G' h => by cases h.1)
  obtain ⟨h, h9⟩ := h
  cases h
  rw [h9]
  clear h9
  refine V_callV (M' := mX12_hashEnd) (mc := 0) (ms := 0) (bc' := 0) (bs' := 0) rfl cw_X12_284 iv_X12_hashEnd (by repeat (first | exact hup_eq | assumption | refine Eq.trans (hup_ne (by first | assumption | exact Ne.symm (by assumption) | decide | omega)) ?_)) rfl rfl (Nat.le_of_ble_eq_true rfl) ⟨Nat.le_of_ble_eq_true rfl, Nat.le_of_ble_eq_true rfl⟩ ⟨Nat.le_of_ble_eq_true rfl, Nat.le_of_ble_eq_true rfl⟩ (As := [.ref 157, .int (nI (32 * 13))]) (c_mhend (T := T) (l := lst (rw9 (S.1 1) 5) 9 ++ lst (rw9 (S.1 1) 4) 9 ++ lst (sft R (32 * 10)) 32 ++ lst (sft R (32 * 16)) 32 ++ lst (sft R (32 * 9)) 32 ++ lst (sft R (32 * 11)) 32) (Q := fun o Ga8 => o = .inl none ∧ FP (fun j => PH j ∨ j = 157) Ga7 Ga8 ∧ hM T Ga8 ∧ mhl [] Ga8 ∧ Ga8.1 157 = some (YA 640 (ovw R (32 * 13) 32 (hL T (lst (rw9 (S.1 1) 5) 9 ++ lst (rw9 (S.1 1) 4) 9 ++ lst (sft R (32 * 10)) 32 ++ lst (sft R (32 * 16)) 32 ++ lst (sft R (32 * 9)) 32 ++ lst (sft R (32 * 11)) 32))))) k140 hm hl (by simp only [List.length_append, List.length_singleton, lst_len]; decide) k157 (Or.inl rfl) (by decide) (fun G4 h1 h2 h3 h4 => ⟨rfl, h1, h2, h3, h4⟩)) (fun o Ga8 h => ?_) (fun E G' h => by cases h.1)
  obtain ⟨h, FE, hm, hl, k157⟩ := h
  cases h
  have k140 := FE.get (by unfold PH; decide) k140
  have F1 : FP PD G Ga8 := (FH.sub (fun _ q => by unfold PD PH; omega)).trans FE (fun _ q => Or.inr q)
  clear FH FE FX
  have e13 : hL T (lst (rw9 (S.1 1) 5) 9 ++ lst (rw9 (S.1 1) 4) 9 ++ lst (sft R (32 * 10)) 32 ++ lst (sft R (32 * 16)) 32 ++ lst (sft R (32 * 9)) 32 ++ lst (sft R (32 * 11)) 32) = agr T (rw9 (S.1 1) 5) (rw9 (S.1 1) 4) (sft R (32 * 10)) (sft R (32 * 16)) (sft R (32 * 9)) (sft R (32 * 11)) := rfl
  rw [e13] at k157
  obtain ⟨H, hH⟩ : ∃ H, H = agr T (rw9 (S.1 1) 5) (rw9 (S.1 1) 4) (sft R (32 * 10)) (sft R (32 * 16)) (sft R (32 * 9)) (sft R (32 * 11)) := ⟨_, rfl⟩
  rw [← hH] at k157 hq
  clear e13
  have hHb : ∀ j, H j < 256 := fun j => by rw [hH]; exact HSH_lt _ _ _ j
  clear hH
  obtain ⟨R1, hR1⟩ : ∃ R1, R1 = ovw R (32 * 13) 32 H := ⟨_, rfl⟩
  rw [← hR1] at k157 hq
  have hRP1 : rowP S R1 := by rw [hR1]; exact hRP.sc (by decide) (fun j _ => hHb j)
  have hRb1 := hRP1.1
  refine V_aload_n rfl (by rfl) ?_
  refine V_callV (M' := mX12_hashBegin) (mc := 0) (ms := 0) (bc' := 0) (bs' := 0) rfl cw_X12_278 iv_X12_hashBegin (by repeat (first | exact hup_eq | assumption | refine Eq.trans (hup_ne (by first | assumption | exact Ne.symm (by assumption) | decide | omega)) ?_)) rfl rfl (Nat.le_of_ble_eq_true rfl) ⟨Nat.le_of_ble_eq_true rfl, Nat.le_of_ble_eq_true rfl⟩ ⟨Nat.le_of_ble_eq_true rfl, Nat.le_of_ble_eq_true rfl⟩ (As := []) (c_mhbegin (Q := fun o Ga9 => o = .inl none ∧ Ga9 = hup Ga8 140 (MO th ta os (nI ([] : List Nat).length) ps rs)) k140 ⟨rfl, rfl⟩) (fun o Ga9 h => ?_) (fun E G' h => by cases h.1)
  obtain ⟨h, hG⟩ := h
  cases h
  have FX : FP (fun j => j = 140 ∨ j = 149) Ga8 Ga9 := by rw [hG]; exact FP.rf.hup (Or.inl rfl)
  have k140 : Ga9.1 140 = some (MO th ta os (nI ([] : List Nat).length) ps rs) := by rw [hG]; exact hup_eq
  have hl : mhl [] Ga9 := hl.fp (by rw [hG]; exact hup_ne (by decide))
  clear hG
  have FH := FX
  have k157 := FX.get (by decide) k157
  refine V_aload_n rfl (by first | rfl | assumption) ?_
  refine V_aload_n rfl (by first | rfl | assumption) ?_
  refine V_getf rfl rfl rfl (by repeat (first | exact hup_eq | assumption | refine Eq.trans (hup_ne (by first | assumption | exact Ne.symm (by assumption) | decide | omega)) ?_)) (by first | rfl | assumption) ?_
  refine V_bipush (v := nI 12) rfl (by decide) ?_
  refine V_callS (M' := mX12_row) (mc := 0) (ms := 0) (bc' := 0) (bs' := 0) rfl cw_X12_267 is_X12_row rfl (Nat.le_of_ble_eq_true rfl) ⟨Nat.le_of_ble_eq_true rfl, Nat.le_of_ble_eq_true rfl⟩ ⟨Nat.le_of_ble_eq_true rfl, Nat.le_of_ble_eq_true rfl⟩ (As := [.int (nI 12)]) (c_mrow (Q := fun o G9 => o = .inl (some (.int (nI (32 * 12)))) ∧ G9 = Ga9) ⟨rfl, rfl⟩) (fun o G9 h => ?_) (fun E G' h => by cases h.1)
  obtain ⟨h, h9⟩ := h
  cases h
  rw [h9]
  clear h9
  refine V_bipush (v := nI 32) rfl (by decide) ?_
  have s12 : ∀ j, j < 32 → sft R1 (32 * 12) j = sft R (32 * 12) j := fun j hj => by rw [hR1]; exact ovw_out (by omega)
  have s13 : ∀ j, j < 32 → sft R1 (32 * 13) j = H j := fun j hj => by rw [hR1]; exact ovw_in hj
  refine V_callV (M' := mX12_hashAdd) (mc := 0) (ms := 0) (bc' := 0) (bs' := 0) rfl cw_X12_281 iv_X12_hashAdd (by repeat (first | exact hup_eq | assumption | refine Eq.trans (hup_ne (by first | assumption | exact Ne.symm (by assumption) | decide | omega)) ?_)) rfl rfl (Nat.le_of_ble_eq_true rfl) ⟨Nat.le_of_ble_eq_true rfl, Nat.le_of_ble_eq_true rfl⟩ ⟨Nat.le_of_ble_eq_true rfl, Nat.le_of_ble_eq_true rfl⟩ (As := [.ref 157, .int (nI (32 * 12)), .int (nI 32)]) (c_mhadd (l := []) (Q := fun o Ga10 => o = .inl none ∧ FP (fun j => j = 140 ∨ j = 149) Ga9 Ga10 ∧ Ga10.1 140 = some (MO th ta os (nI (lst (sft R (32 * 12)) 32).length) ps rs) ∧ mhl (lst (sft R (32 * 12)) 32) Ga10) k140 hl k157 (by decide) (by decide) (by decide) hRb1 (by simp only [List.length_append, List.length_nil, List.length_singleton, lst_len]; decide) (fun G9 h1 h2 h3 => ?_)) (fun o Ga10 h => ?_) (fun E G' h => by cases h.1)
  · rw [List.nil_append, lst_congr s12] at h2 h3
    exact ⟨rfl, h1, h2, h3⟩
  obtain ⟨h, FX, k140, hl⟩ := h
  cases h
  have FH := FH.trans FX (fun _ q => q)
  have k157 := FX.get (by decide) k157
  refine V_aload_n rfl (by first | rfl | assumption) ?_
  refine V_aload_n rfl (by first | rfl | assumption) ?_
  refine V_getf rfl rfl rfl (by repeat (first | exact hup_eq | assumption | refine Eq.trans (hup_ne (by first | assumption | exact Ne.symm (by assumption) | decide | omega)) ?_)) (by first | rfl | assumption) ?_
  refine V_bipush (v := nI 13) rfl (by decide) ?_
  refine V_callS (M' := mX12_row) (mc := 0) (ms := 0) (bc' := 0) (bs' := 0) rfl cw_X12_267 is_X12_row rfl (Nat.le_of_ble_eq_true rfl) ⟨Nat.le_of_ble_eq_true rfl, Nat.le_of_ble_eq_true rfl⟩ ⟨Nat.le_of_ble_eq_true rfl, Nat.le_of_ble_eq_true rfl⟩ (As := [.int (nI 13)]) (c_mrow (Q := fun o G9 => o = .inl (some (.int (nI (32 * 13)))) ∧ G9 = Ga10) ⟨rfl, rfl⟩) (fun o G9 h => ?_) (fun E G' h => by cases h.1)
  obtain ⟨h, h9⟩ := h
  cases h
  rw [h9]
  clear h9
  refine V_bipush (v := nI 32) rfl (by decide) ?_
  refine V_callV (M' := mX12_hashAdd) (mc := 0) (ms := 0) (bc' := 0) (bs' := 0) rfl cw_X12_281 iv_X12_hashAdd (by repeat (first | exact hup_eq | assumption | refine Eq.trans (hup_ne (by first | assumption | exact Ne.symm (by assumption) | decide | omega)) ?_)) rfl rfl (Nat.le_of_ble_eq_true rfl) ⟨Nat.le_of_ble_eq_true rfl, Nat.le_of_ble_eq_true rfl⟩ ⟨Nat.le_of_ble_eq_true rfl, Nat.le_of_ble_eq_true rfl⟩ (As := [.ref 157, .int (nI (32 * 13)), .int (nI 32)]) (c_mhadd (l := lst (sft R (32 * 12)) 32) (Q := fun o Ga11 => o = .inl none ∧ FP (fun j => j = 140 ∨ j = 149) Ga10 Ga11 ∧ Ga11.1 140 = some (MO th ta os (nI (lst (sft R (32 * 12)) 32 ++ lst H 32).length) ps rs) ∧ mhl (lst (sft R (32 * 12)) 32 ++ lst H 32) Ga11) k140 hl k157 (by decide) (by decide) (by decide) hRb1 (by simp only [List.length_append, List.length_nil, List.length_singleton, lst_len]; decide) (fun G9 h1 h2 h3 => ?_)) (fun o Ga11 h => ?_) (fun E G' h => by cases h.1)
  · rw [lst_congr s13] at h2 h3
    exact ⟨rfl, h1, h2, h3⟩
  obtain ⟨h, FX, k140, hl⟩ := h
  cases h
  have FH := FH.trans FX (fun _ q => q)
  have k157 := FX.get (by decide) k157
  have hm : hM T Ga11 := hm.fq (fun j hj => FH.2 j (by omega))
  refine V_aload_n rfl (by first | rfl | assumption) ?_
  refine V_aload_n rfl (by first | rfl | assumption) ?_
  refine V_getf rfl rfl rfl (by repeat (first | exact hup_eq | assumption | refine Eq.trans (hup_ne (by first | assumption | exact Ne.symm (by assumption) | decide | omega)) ?_)) (by first | rfl | assumption) ?_
  refine V_bipush (v := nI 14) rfl (by decide) ?_
  refine V_callS (M' := mX12_row) (mc := 0) (ms := 0) (bc' := 0) (bs' := 0) rfl cw_X12_267 is_X12_row rfl (Nat.le_of_ble_eq_true rfl) ⟨Nat.le_of_ble_eq_true rfl, Nat.le_of_ble_eq_true rfl⟩ ⟨Nat.le_of_ble_eq_true rfl, Nat.le_of_ble_eq_true rfl⟩ (As := [.int (nI 14)]) (c_mrow (Q := fun o G9 => o = .inl (some (.int (nI (32 * 14)))) ∧ G9 = Ga11) ⟨rfl, rfl⟩) (fun o G9 h => ?_) (fun E G' h => by cases h.1)
  obtain ⟨h, h9⟩ := h
  cases h
  rw [h9]
  clear h9
  refine V_callV (M' := mX12_hashEnd) (mc := 0) (ms := 0) (bc' := 0) (bs' := 0) rfl cw_X12_284 iv_X12_hashEnd (by repeat (first | exact hup_eq | assumption | refine Eq.trans (hup_ne (by first | assumption | exact Ne.symm (by assumption) | decide | omega)) ?_)) rfl rfl (Nat.le_of_ble_eq_true rfl) ⟨Nat.le_of_ble_eq_true rfl, Nat.le_of_ble_eq_true rfl⟩ ⟨Nat.le_of_ble_eq_true rfl, Nat.le_of_ble_eq_true rfl⟩ (As := [.ref 157, .int (nI (32 * 14))]) (c_mhend (T := T) (l := lst (sft R (32 * 12)) 32 ++ lst H 32) (Q := fun o Ga12 => o = .inl none ∧ FP (fun j => PH j ∨ j = 157) Ga11 Ga12 ∧ hM T Ga12 ∧ mhl [] Ga12 ∧ Ga12.1 157 = some (YA 640 (ovw R1 (32 * 14) 32 (hL T (lst (sft R (32 * 12)) 32 ++ lst H 32))))) k140 hm hl (by simp only [List.length_append, List.length_singleton, lst_len]; decide) k157 (Or.inl rfl) (by decide) (fun G4 h1 h2 h3 h4 => ⟨rfl, h1, h2, h3, h4⟩)) (fun o Ga12 h => ?_) (fun E G' h => by cases h.1)
  obtain ⟨h, FE, hm, hl, k157⟩ := h
  cases h
  have k140 := FE.get (by unfold PH; decide) k140
  have F2 : FP PD Ga8 Ga12 := (FH.sub (fun _ q => by unfold PD PH; omega)).trans FE (fun _ q => Or.inr q)
  have FF := F1.trans F2 (fun _ q => q)
  have e14 : hL T (lst (sft R (32 * 12)) 32 ++ lst H 32) = prf T (sft R (32 * 12)) H := rfl
  rw [e14] at k157
  have hRP2 : rowP S (ovw R1 (32 * 14) 32 (prf T (sft R (32 * 12)) H)) := hRP1.sc (by decide) (fun j _ => HSH_lt _ _ _ j)
  refine V_vret rfl rfl (hq _ _ FF ?_ k140 k157)
  exact hR.sr (hR.1.ha hm hl (fun j hj => FF.2 j (by unfold PD PH; omega))) ⟨_, k157, hRP2⟩ (fun j a b => FF.2 j (by unfold PD PH; omega))
end MWire2
