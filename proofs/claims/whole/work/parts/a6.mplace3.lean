section MPlace3
variable {K : kK} {G : kG} {Q : kO → kG → Prop} {T : TB} {S : SG} {th ta os hs ps rs : Int32}
def giS (g : Nat → Nat) (s : ES) : ES := sfl (srw s 5 g) 3 true
theorem giS_w {g o : Nat → Nat} {s : ES} : sfl (srw (giS g s) 4 o) 2 true = giS g (sfl (srw s 4 o) 2 true) := by
  unfold giS sfl srw
  refine Prod.ext ?_ (Prod.ext rfl (Prod.ext rfl (Prod.ext ?_ rfl)))
  · funext j
    show (if j = 2 then true else if j = 3 then true else s.1 j) = if j = 3 then true else if j = 2 then true else s.1 j
    by_cases h : j = 2
    · subst h; rfl
    · rw [if_neg h, if_neg h]
  · funext j
    show (if j = 4 then o else if j = 5 then g else rw9 s j) = if j = 5 then g else if j = 4 then o else rw9 s j
    by_cases h : j = 4
    · subst h; rfl
    · rw [if_neg h, if_neg h]
theorem giS_com {g : Nat → Nat} : (∀ s b, giS g (sfl s 0 b) = sfl (giS g s) 0 b) ∧ (∀ s n, giS g (snm s 0 n) = snm (giS g s) 0 n) ∧ ∀ s, fl (giS g s) 0 = fl s 0 ∧ fl (giS g s) 6 = fl s 6 ∧ rw9 (giS g s) 6 = rw9 s 6 ∧ rw9 (giS g s) 7 = rw9 s 7 ∧ nm (giS g s) 0 = nm s 0 := by
  refine ⟨fun s b => ?_, fun s n => rfl, fun s => ⟨rfl, rfl, rfl, rfl, rfl⟩⟩
  unfold giS sfl srw
  refine Prod.ext ?_ rfl
  funext j
  show (if j = 3 then true else if j = 0 then b else s.1 j) = if j = 0 then b else if j = 3 then true else s.1 j
  by_cases h : j = 0
  · subst h; rfl
  · rw [if_neg h, if_neg h]
theorem oinit_gi {g : Nat → Nat} {s : ES} : oinit (giS g s) = oinit s := rfl
theorem bgn_com {e : Nat} {g : Nat → Nat} (he : e < 2) : bgn T (sE S e (giS g (S.1 e))) e = sE (bgn T S e) e (giS g ((bgn T S e).1 e)) := by
  unfold bgn
  have e1 : wIn (sE S e (giS g (S.1 e))) e = sE (wIn S e) e (giS g ((wIn S e).1 e)) := by
    unfold wIn
    rw [sE_sE, sE_e, sE_e, sE_sE, oinit_gi, giS_w]
  rw [e1, sE_e, oinit_gi]
  exact emt_com he giS_com.1 giS_com.2.1 giS_com.2.2
theorem emt_nm' {e k : Nat} {p : List Nat} : nm ((emt T S e p).1 k) 0 ≤ nm (S.1 k) 0 + 1 := emt_nm
set_option maxHeartbeats 8000000 in
theorem c_minitC {e : Nat} {c : List Nat} (he : e < 2) (hqt : qtO T.2.2) (g140 : G.1 140 = some (MO th ta os hs ps (nI c.length))) (hcl : c.length ≤ 200) (hR : RM T S G) (hrd : rdM c G) (hsent : nm (S.1 e) 0 + 2 < 2 ^ 31)
    (hq1 : ¬ (c.length = 9 ∧ fl (S.1 e) 3 = false) → Q (.inl (some (.int (bI false)))) G)
    (hq2 : (c.length = 9 ∧ fl (S.1 e) 3 = false) → ∀ G' hs' ps', FP PA G G' → G'.1 140 = some (MO th ta os hs' ps' (nI c.length)) → RM T (onI T S e c) G' → Q (.inl (some (.int (bI true)))) G') : C K 0 0 mX12_initComes [.ref 140, .int (nI e)] G Q := by
  obtain ⟨f0, f1, f2, f3, f4, f5, f6, f7⟩ := id hR.2.2.2.2.2.2.2.2.1
  refine C_of okX12_initComes (Nat.le_of_ble_eq_true rfl) ?_
  have bad : ¬ (c.length = 9 ∧ fl (S.1 e) 3 = false) → V K 0 0 mX12_initComes 18 (kla [.ref 140, .int (nI e)]) [] G Q := fun z => by
    refine V_iconst (v := bI false) rfl (by decide) ?_
    exact V_zret rfl rfl (bI_01 _) (hq1 z)
  refine V_aload_n rfl (by first | rfl | assumption) ?_
  refine V_getf rfl rfl rfl (by repeat (first | exact hup_eq | assumption | refine Eq.trans (hup_ne (by first | assumption | exact Ne.symm (by assumption) | decide | omega)) ?_)) (by first | rfl | assumption) ?_
  refine V_iload_n rfl (by first | rfl | assumption) ?_
  refine V_zaldZ rfl (by repeat (first | exact hup_eq | assumption | refine Eq.trans (hup_ne (by first | assumption | exact Ne.symm (by assumption) | decide | omega)) ?_)) rfl (by first | omega | decide) (by first | omega | decide) ?_
  refine V_if_neB rfl (fun z => bad (fun q => by rw [z] at q; cases q.2)) (fun z1 => ?_)
  refine V_aload_n rfl (by first | rfl | assumption) ?_
  refine V_getf rfl rfl rfl (by repeat (first | exact hup_eq | assumption | refine Eq.trans (hup_ne (by first | assumption | exact Ne.symm (by assumption) | decide | omega)) ?_)) (by first | rfl | assumption) ?_
  refine V_bipush (v := nI 9) rfl (by decide) ?_
  refine V_icmp_eqN rfl (by omega) (by decide) (fun z2 => ?_) (fun z => bad (fun q => z q.1))
  clear bad hq1
  have hq2 := hq2 ⟨z2, z1⟩
  have t34 : ∀ (lc : kLo) (G1 : kG) (Sa : SG) (hs1 ps1 : Int32), lc 0 = some (.ref 140) → lc 1 = some (.int (nI e)) → FP PA G G1 → G1.1 140 = some (MO th ta os hs1 ps1 (nI c.length)) → RM T Sa G1 → nm (Sa.1 e) 0 ≤ nm (S.1 e) 0 + 1 → sE Sa e (giS (gD c) (Sa.1 e)) = (if fl (S.1 e) 2 then sE S e (giS (gD c) (S.1 e)) else bgn T (sE S e (giS (gD c) (S.1 e))) e) → V K 0 0 mX12_initComes 34 lc [] G1 Q := by
    intro lc G1 Sa hs1 ps1 l0 l1 FA k140 hRa hna hSa
    have k168 := hRa.2.2.2.2.2.2.2.2.1.2.2.2.1
    obtain ⟨rb, k180, hrb, hrl⟩ := id (hrd.fp (FA.2 180 (by decide)))
    have hrg : ∀ j, j < 9 → rb j = gD c j := fun j hj => (gD_of hrl (by omega)).symm
    refine V_aload_n rfl (by first | rfl | assumption) ?_
    refine V_getf rfl rfl rfl (by repeat (first | exact hup_eq | assumption | refine Eq.trans (hup_ne (by first | assumption | exact Ne.symm (by assumption) | decide | omega)) ?_)) (by first | rfl | assumption) ?_
    refine V_iload_n rfl (by first | rfl | assumption) ?_
    refine V_iconst (v := nI 1) rfl (by decide) ?_
    refine V_zastZ true rfl (by repeat (first | exact hup_eq | assumption | refine Eq.trans (hup_ne (by first | assumption | exact Ne.symm (by assumption) | decide | omega)) ?_)) (by decide) rfl (by first | omega | decide) (by first | omega | decide) ?_
    refine V_iconst (v := nI 0) rfl (by decide) ?_
    refine V_istore_n rfl (by decide) ?_
    have hR1 := hRa.g3 (e := e) (b := true) k168
    obtain ⟨G2, hG2⟩ : ∃ G2, G2 = hup G1 168 (ZA 2 (up (fun j => fl (Sa.1 j) 3) e true)) := ⟨_, rfl⟩
    rw [← hG2] at hR1 ⊢
    have FA := (show FP PA G G2 by rw [hG2]; exact FA.hup (by decide))
    have j140 : G2.1 140 = some (MO th ta os hs1 ps1 (nI c.length)) := by rw [hG2]; exact (hup_ne (by decide)).trans k140
    have j180 : G2.1 180 = some (YA 240 rb) := by rw [hG2]; exact (hup_ne (by decide)).trans k180
    clear hG2
    obtain ⟨I, j159, hIb, hI⟩ := id hR1.2.2.2.1
    refine V_loop 9 (fun i lc G' => lc 0 = some (.ref 140) ∧ lc 1 = some (.int (nI e)) ∧ lc 2 = some (.int (nI i)) ∧ G' = hup G2 159 (YA 36 (ovw I (18 * e + 9) i (gD c)))) ?_ ?_ 0 _ _ (Nat.zero_le _) ⟨l0, l1, rfl, by rw [ovw_0, hup_same j159]⟩
    · rintro i lc G' hi ⟨l0, l1, l2, rfl⟩ ih
      have hb := hrb i
      refine V_iload_n rfl (by first | rfl | assumption) ?_
      refine V_bipush (v := nI 9) rfl (by decide) ?_
      refine V_icmp_geN rfl (by omega) (by decide) (fun h => absurd h (by omega)) (fun _ => ?_)
      refine V_aload_n rfl (by first | rfl | assumption) ?_
      refine V_getf rfl rfl rfl (by repeat (first | exact hup_eq | assumption | refine Eq.trans (hup_ne (by first | assumption | exact Ne.symm (by assumption) | decide | omega)) ?_)) (by first | rfl | assumption) ?_
      refine V_bipush (v := nI 18) rfl (by decide) ?_
      refine V_iload_n rfl (by first | rfl | assumption) ?_
      refine V_imulN rfl ?_
      refine V_bipush (v := nI 9) rfl (by decide) ?_
      refine V_iaddN rfl ?_
      refine V_iload_n rfl (by first | rfl | assumption) ?_
      refine V_iaddN rfl ?_
      refine V_aload_n rfl (by first | rfl | assumption) ?_
      refine V_getf rfl rfl rfl (by repeat (first | exact hup_eq | assumption | refine Eq.trans (hup_ne (by first | assumption | exact Ne.symm (by assumption) | decide | omega)) ?_)) (by first | rfl | assumption) ?_
      refine V_iload_n rfl (by first | rfl | assumption) ?_
      refine V_baldB rfl (by repeat (first | exact hup_eq | assumption | refine Eq.trans (hup_ne (by first | assumption | exact Ne.symm (by assumption) | decide | omega)) ?_)) rfl (by first | omega | decide) (by first | omega | decide) ?_
      refine V_bastB rfl (by repeat (first | exact hup_eq | assumption | refine Eq.trans (hup_ne (by first | assumption | exact Ne.symm (by assumption) | decide | omega)) ?_)) rfl (by first | omega | decide) (by first | omega | decide) (by first | assumption | solve_by_elim | exact Nat.mod_lt _ (by decide) | omega) ?_
      refine V_iincN (d := 1) rfl (by first | rfl | assumption) (by decide) (by decide) ?_
      refine V_goto rfl ?_
      rw [hup_hup, ovw_s' (g := gD c) (hrg i hi)]
      exact ih _ _ ⟨l0, l1, rfl, rfl⟩
    rintro lc G' ⟨l0, l1, l2, rfl⟩
    refine V_iload_n rfl (by first | rfl | assumption) ?_
    refine V_bipush (v := nI 9) rfl (by decide) ?_
    refine V_icmp_geN rfl (by decide) (by decide) (fun _ => ?_) (fun h => absurd (Nat.le_refl _) h)
    have hgb : ∀ j, j < 9 → gD c j < 256 := fun j hj => by rw [← hrg j hj]; exact hrb j
    have hR2 : RM T (sE Sa e (giS (gD c) (Sa.1 e))) (hup G2 159 (YA 36 (ovw I (18 * e + 9) 9 (gD c)))) := by
      have h9 : RM T (sE (sE Sa e (sfl (Sa.1 e) 3 true)) e (srw ((sE Sa e (sfl (Sa.1 e) 3 true)).1 e) 5 (gD c))) (hup G2 159 (YA 36 (ovw I (18 * e + 9) 9 (gD c)))) := by
        refine hR1.r159 (fun j _ _ h => hup_ne h) rwo_sE (fun i j h4 h5 => srw_o h5 j) rfl ⟨_, hup_eq, ovw_lt hIb hgb, fun i hi j hj => ?_⟩
        rw [srw_o (k := 5) (i := 4) (by decide), ovw_out (j := 18 * i + j) (by omega)]
        refine ⟨(hI i hi j hj).1, ?_⟩
        by_cases x : i = e
        · subst x; rw [srw_e, ovw_in hj]
        · rw [srw_n x, ovw_out (by omega)]; exact (hI i hi j hj).2
      rw [sE_sE, sE_e] at h9
      exact h9
    obtain ⟨G3, hG3⟩ : ∃ G3, G3 = hup G2 159 (YA 36 (ovw I (18 * e + 9) 9 (gD c))) := ⟨_, rfl⟩
    rw [← hG3] at hR2 ⊢
    have FA := (show FP PA G G3 by rw [hG3]; exact FA.hup (by decide))
    have i140 : G3.1 140 = some (MO th ta os hs1 ps1 (nI c.length)) := by rw [hG3]; exact (hup_ne (by decide)).trans j140
    clear hG3
    obtain ⟨Sb, hSb⟩ : ∃ Sb, Sb = sE Sa e (giS (gD c) (Sa.1 e)) := ⟨_, rfl⟩
    have hnb : nm (Sb.1 e) 0 = nm (Sa.1 e) 0 := by rw [hSb, sE_e]; rfl
    rw [← hSb] at hR2
    have U : onI T S e c = if e = 0 then emt T (sE (tks Sb 0) 0 (sfl ((tks Sb 0).1 0) 4 true)) 0 (30 :: lst (pub ((tks Sb 0).1 0)) 32) else Sb := by
      unfold onI
      have e1 : fl ((sE S e (sfl (srw (S.1 e) 5 (gD c)) 3 true)).1 e) 2 = fl (S.1 e) 2 := by rw [sE_e]; rfl
      rw [hSb, hSa]
      show (if e = 0 then emt T (sE (tks (if fl ((sE S e (sfl (srw (S.1 e) 5 (gD c)) 3 true)).1 e) 2 = true then sE S e (sfl (srw (S.1 e) 5 (gD c)) 3 true) else bgn T (sE S e (sfl (srw (S.1 e) 5 (gD c)) 3 true)) e) 0) 0 _) 0 _ else _) = _
      rw [e1]
      rfl
    rw [U] at hq2
    clear U hSb hSa
    refine V_iload_n rfl (by assumption) ?_
    refine V_if_neN rfl (by omega) (fun z0 => ?_) (fun z0 => ?_)
    · rw [if_neg z0] at hq2
      refine V_iconst (v := bI true) rfl (by decide) ?_
      exact V_zret rfl rfl (bI_01 _) (hq2 _ _ _ FA i140 hR2)
    · subst z0
      rw [if_pos rfl] at hq2
      refine V_aload_n rfl (by first | rfl | assumption) ?_
      refine V_iconst (v := nI 0) rfl (by decide) ?_
      refine V_callV (M' := mX12_takeSecret) (mc := 0) (ms := 0) (bc' := 0) (bs' := 0) rfl cw_X12_327 iv_X12_takeSecret (by repeat (first | exact hup_eq | assumption | refine Eq.trans (hup_ne (by first | assumption | exact Ne.symm (by assumption) | decide | omega)) ?_)) rfl rfl (Nat.le_of_ble_eq_true rfl) ⟨Nat.le_of_ble_eq_true rfl, Nat.le_of_ble_eq_true rfl⟩ ⟨Nat.le_of_ble_eq_true rfl, Nat.le_of_ble_eq_true rfl⟩ (As := [.int (nI 0)]) (c_mtakeS (e := 0) (Q := fun o G4 => o = .inl none ∧ ∃ R', FP PC G3 G4 ∧ RM T (tks Sb 0) G4 ∧ G4.1 157 = some (YA 640 R') ∧ rowP (tks Sb 0) R' ∧ ∀ j, j < 32 → R' (288 + j) = pub ((tks Sb 0).1 0) j) (by decide) i140 hR2 (fun G1 R' h1 h2 h3 h4 h5 => ⟨rfl, R', h1, h2, h3, h4, h5⟩)) (fun o G4 h => ?_) (fun E G' h => by cases h.1)
      obtain ⟨h, R', F4, hR4, k157, hRP, hpub⟩ := h
      cases h
      have k140 := F4.get (by decide) i140
      have FA := FA.trans F4 (fun x hx => by show _ ∨ _; omega)
      have hnc : nm ((tks Sb 0).1 0) 0 = nm (Sb.1 0) 0 := by unfold tks; rw [sE_e]; rfl
      obtain ⟨Sc, hSc⟩ : ∃ Sc, Sc = tks Sb 0 := ⟨_, rfl⟩
      rw [← hSc] at hR4 hRP hpub hnc hq2
      clear hSc
      refine V_aload_n rfl (by first | rfl | assumption) ?_
      refine V_iconst (v := nI 0) rfl (by decide) ?_
      refine V_pf_ps rfl rfl rfl (by repeat (first | exact hup_eq | assumption | refine Eq.trans (hup_ne (by first | assumption | exact Ne.symm (by assumption) | decide | omega)) ?_)) ?_
      refine V_aload_n rfl (by first | rfl | assumption) ?_
      refine V_bipush (v := nI 30) rfl (by decide) ?_
      have hp0 : plM [] (hup G4 140 (MO th ta os hs1 (nI 0) (nI c.length))) := (plM.nl hR4.1.2.2.2.2.2.1).fp (hup_ne (by decide))
      refine V_callV (M' := mX12_say) (mc := 0) (ms := 0) (bc' := 0) (bs' := 0) rfl cw_X12_307 iv_X12_say (by repeat (first | exact hup_eq | assumption | refine Eq.trans (hup_ne (by first | assumption | exact Ne.symm (by assumption) | decide | omega)) ?_)) rfl rfl (Nat.le_of_ble_eq_true rfl) ⟨Nat.le_of_ble_eq_true rfl, Nat.le_of_ble_eq_true rfl⟩ ⟨Nat.le_of_ble_eq_true rfl, Nat.le_of_ble_eq_true rfl⟩ (As := [.int (nI 30)]) (c_msay (p := []) (Q := fun o G5 => o = .inl none ∧ FP PP2 (hup G4 140 (MO th ta os hs1 (nI 0) (nI c.length))) G5 ∧ G5.1 140 = some (MO th ta os hs1 (nI [30].length) (nI c.length)) ∧ plM [30] G5) hup_eq hp0 (by decide) (fun G2 h1 h2 h3 => ⟨rfl, h1, h2, h3⟩)) (fun o G5 h => ?_) (fun E G' h => by cases h.1)
      obtain ⟨h, FX, k140, kp⟩ := h
      cases h
      have FY : FP PP2 G4 G5 := (FP.rf.hup (by decide)).trans FX (fun _ q => q)
      have k157 := FY.get (by decide) k157
      refine V_aload_n rfl (by first | rfl | assumption) ?_
      refine V_aload_n rfl (by first | rfl | assumption) ?_
      refine V_getf rfl rfl rfl (by repeat (first | exact hup_eq | assumption | refine Eq.trans (hup_ne (by first | assumption | exact Ne.symm (by assumption) | decide | omega)) ?_)) (by first | rfl | assumption) ?_
      refine V_bipush (v := nI 9) rfl (by decide) ?_
      refine V_callS (M' := mX12_row) (mc := 0) (ms := 0) (bc' := 0) (bs' := 0) rfl cw_X12_267 is_X12_row rfl (Nat.le_of_ble_eq_true rfl) ⟨Nat.le_of_ble_eq_true rfl, Nat.le_of_ble_eq_true rfl⟩ ⟨Nat.le_of_ble_eq_true rfl, Nat.le_of_ble_eq_true rfl⟩ (As := [.int (nI 9)]) (c_mrow (Q := fun o G9 => o = .inl (some (.int (nI (32 * 9)))) ∧ G9 = G5) ⟨rfl, rfl⟩) (fun o G9 h => ?_) (fun E G' h => by cases h.1)
      obtain ⟨h, h9⟩ := h
      cases h
      rw [h9]
      clear h9
      refine V_bipush (v := nI 32) rfl (by decide) ?_
      have ep : [30] ++ lst (sft R' (32 * 9)) 32 = 30 :: lst (pub (Sc.1 0)) 32 := by rw [lst_congr (f := sft R' (32 * 9)) (g := pub (Sc.1 0)) hpub]; rfl
      refine V_callV (M' := mX12_sayRow) (mc := 0) (ms := 0) (bc' := 0) (bs' := 0) rfl cw_X12_324 iv_X12_sayRow (by repeat (first | exact hup_eq | assumption | refine Eq.trans (hup_ne (by first | assumption | exact Ne.symm (by assumption) | decide | omega)) ?_)) rfl rfl (Nat.le_of_ble_eq_true rfl) ⟨Nat.le_of_ble_eq_true rfl, Nat.le_of_ble_eq_true rfl⟩ ⟨Nat.le_of_ble_eq_true rfl, Nat.le_of_ble_eq_true rfl⟩ (As := [.ref 157, .int (nI (32 * 9)), .int (nI 32)]) (c_msayRow (p := [30]) (Q := fun o G6 => o = .inl none ∧ FP PP2 G5 G6 ∧ G6.1 140 = some (MO th ta os hs1 (nI (30 :: lst (pub (Sc.1 0)) 32).length) (nI c.length)) ∧ plM (30 :: lst (pub (Sc.1 0)) 32) G6) k140 kp k157 (by decide) (by decide) (by decide) hRP.1 (by decide) (fun G3 h1 h2 h3 => by rw [ep] at h2 h3; exact ⟨rfl, h1, h2, h3⟩)) (fun o G6 h => ?_) (fun E G' h => by cases h.1)
      obtain ⟨h, FX, k140, kp⟩ := h
      cases h
      have FY := FY.trans FX (fun _ q => q)
      have hR6 := hR4.pl FY kp
      have k169 := hR6.2.2.2.2.2.2.2.2.1.2.2.2.2.1
      obtain ⟨pl, hpl⟩ : ∃ pl, pl = 30 :: lst (pub (Sc.1 0)) 32 := ⟨_, rfl⟩
      have hpll : pl.length = 33 := by rw [hpl, List.length_cons, lst_len]
      rw [← hpl] at k140 kp hq2
      clear hpl ep
      refine V_aload_n rfl (by first | rfl | assumption) ?_
      refine V_getf rfl rfl rfl (by repeat (first | exact hup_eq | assumption | refine Eq.trans (hup_ne (by first | assumption | exact Ne.symm (by assumption) | decide | omega)) ?_)) (by first | rfl | assumption) ?_
      refine V_iconst (v := nI 0) rfl (by decide) ?_
      refine V_iconst (v := nI 1) rfl (by decide) ?_
      refine V_zastZ true rfl (by repeat (first | exact hup_eq | assumption | refine Eq.trans (hup_ne (by first | assumption | exact Ne.symm (by assumption) | decide | omega)) ?_)) (by decide) rfl (by first | omega | decide) (by first | omega | decide) ?_
      refine V_aload_n rfl (by first | rfl | assumption) ?_
      refine V_iconst (v := nI 0) rfl (by decide) ?_
      have hR7 := hR6.g4 (e := 0) (b := true) k169
      have hnd : nm ((sE Sc 0 (sfl (Sc.1 0) 4 true)).1 0) 0 = nm (Sc.1 0) 0 := by rw [sE_e]; rfl
      refine V_callV (M' := mX12_post) (mc := 0) (ms := 0) (bc' := 0) (bs' := 0) rfl cw_X12_310 iv_X12_post (by repeat (first | exact hup_eq | assumption | refine Eq.trans (hup_ne (by first | assumption | exact Ne.symm (by assumption) | decide | omega)) ?_)) rfl rfl (Nat.le_of_ble_eq_true rfl) ⟨Nat.le_of_ble_eq_true rfl, Nat.le_of_ble_eq_true rfl⟩ ⟨Nat.le_of_ble_eq_true rfl, Nat.le_of_ble_eq_true rfl⟩ (As := [.int (nI 0)]) (c_mpost (e := 0) (S := sE Sc 0 (sfl (Sc.1 0) 4 true)) (p := pl) (Q := fun o G8 => o = .inl none ∧ FP PW (hup G6 169 (ZA 2 (up (fun j => fl (Sc.1 j) 4) 0 true))) G8 ∧ RM T (emt T (sE Sc 0 (sfl (Sc.1 0) 4 true)) 0 pl) G8) (by decide) hqt ((hup_ne (by decide)).trans k140) hR7 (kp.fp (hup_ne (by decide))) (by omega) (by rw [hnd, hnc, hnb]; omega) (fun G3 h1 h2 => ⟨rfl, h1, h2⟩)) (fun o G8 h => ?_) (fun E G' h => by cases h.1)
      obtain ⟨h, FX, hR8⟩ := h
      cases h
      have FB : FP PA G G6 := FA.trans FY (fun x hx => by show _ ∨ _; omega)
      have FA := (FB.hup (k := 169) (e := ZA 2 (up (fun j => fl (Sc.1 j) 4) 0 true)) (by decide)).trans FX (fun x hx => by show _ ∨ _; omega)
      refine V_iconst (v := bI true) rfl (by decide) ?_
      exact V_zret rfl rfl (bI_01 _) (hq2 _ _ _ FA (FX.get (by decide) ((hup_ne (by decide)).trans k140)) hR8)
  refine V_aload_n rfl (by first | rfl | assumption) ?_
  refine V_getf rfl rfl rfl (by repeat (first | exact hup_eq | assumption | refine Eq.trans (hup_ne (by first | assumption | exact Ne.symm (by assumption) | decide | omega)) ?_)) (by first | rfl | assumption) ?_
  refine V_iload_n rfl (by first | rfl | assumption) ?_
  refine V_zaldZ rfl (by repeat (first | exact hup_eq | assumption | refine Eq.trans (hup_ne (by first | assumption | exact Ne.symm (by assumption) | decide | omega)) ?_)) rfl (by first | omega | decide) (by first | omega | decide) ?_
  refine V_if_neB rfl (fun z3 => ?_) (fun z3 => ?_)
  · exact t34 _ G S hs ps rfl rfl FP.rf g140 hR (by omega) (by rw [if_pos z3])
  · refine V_aload_n rfl (by first | rfl | assumption) ?_
    refine V_iload_n rfl (by first | rfl | assumption) ?_
    refine V_callV (M' := mX12_postInit) (mc := 0) (ms := 0) (bc' := 0) (bs' := 0) rfl cw_X12_354 iv_X12_postInit (by repeat (first | exact hup_eq | assumption | refine Eq.trans (hup_ne (by first | assumption | exact Ne.symm (by assumption) | decide | omega)) ?_)) rfl rfl (Nat.le_of_ble_eq_true rfl) ⟨Nat.le_of_ble_eq_true rfl, Nat.le_of_ble_eq_true rfl⟩ ⟨Nat.le_of_ble_eq_true rfl, Nat.le_of_ble_eq_true rfl⟩ (As := [.int (nI e)]) (c_minit (Q := fun o G2 => o = .inl none ∧ ∃ ps', FP (fun j => PO j ∨ j = 159 ∨ j = 167) G G2 ∧ G2.1 140 = some (MO th ta os hs ps' (nI c.length)) ∧ RM T (bgn T S e) G2) he hqt g140 hR (by omega) (fun G2 ps' h1 h2 h3 => ⟨rfl, ps', h1, h2, h3⟩)) (fun o G2 h => ?_) (fun E G' h => by cases h.1)
    obtain ⟨h, ps', F2, k140, hR2⟩ := h
    cases h
    refine t34 _ G2 (bgn T S e) hs ps' rfl rfl (F2.sub (fun x hx => by show _ ∨ _; omega)) k140 hR2 ?_ ?_
    · unfold bgn
      have h1 := emt_nm (T := T) (S := wIn S e) (e := e) (k := e) (p := lst (oinit (S.1 e)) 9)
      have h2 : nm ((wIn S e).1 e) 0 = nm (S.1 e) 0 := by unfold wIn; rw [sE_e]; rfl
      omega
    · rw [if_neg (by rw [z3]; decide)]
      exact (bgn_com he).symm
set_option maxHeartbeats 8000000 in
theorem c_mreply {e : Nat} {c : List Nat} (he : e < 2) (hqt : qtO T.2.2) (g140 : G.1 140 = some (MO th ta os hs ps (nI c.length))) (hcl : c.length ≤ 200) (hR : RM T S G) (hrd : rdM c G) (hsent : nm (S.1 e) 0 + 2 < 2 ^ 31)
    (hq1 : ¬ (c.length = 97 ∧ e = 0 ∧ fl (S.1 0) 4 = true ∧ fl (S.1 0) 5 = false) → Q (.inl (some (.int (bI false)))) G)
    (hq2 : (c.length = 97 ∧ e = 0 ∧ fl (S.1 0) 4 = true ∧ fl (S.1 0) 5 = false) → ∀ G' hs' ps', FP PA G G' → G'.1 140 = some (MO th ta os hs' ps' (nI c.length)) → RM T (aRp T S c) G' → Q (.inl (some (.int (bI true)))) G') : C K 0 0 mX12_replyComes [.ref 140, .int (nI e)] G Q := by
  obtain ⟨f0, f1, f2, f3, f4, f5, f6, f7⟩ := id hR.2.2.2.2.2.2.2.2.1
  refine C_of okX12_replyComes (Nat.le_of_ble_eq_true rfl) ?_
  have bad : ¬ (c.length = 97 ∧ e = 0 ∧ fl (S.1 0) 4 = true ∧ fl (S.1 0) 5 = false) → V K 0 0 mX12_replyComes 32 (kla [.ref 140, .int (nI e)]) [] G Q := fun z => by
    refine V_iconst (v := bI false) rfl (by decide) ?_
    exact V_zret rfl rfl (bI_01 _) (hq1 z)
  refine V_iload_n rfl (by first | rfl | assumption) ?_
  refine V_iconst (v := nI 1) rfl (by decide) ?_
  refine V_icmp_eqN rfl (by omega) (by decide) (fun z => bad (fun q => by omega)) (fun z0 => ?_)
  have he0 : e = 0 := by omega
  subst he0
  refine V_aload_n rfl (by first | rfl | assumption) ?_
  refine V_getf rfl rfl rfl (by repeat (first | exact hup_eq | assumption | refine Eq.trans (hup_ne (by first | assumption | exact Ne.symm (by assumption) | decide | omega)) ?_)) (by first | rfl | assumption) ?_
  refine V_iconst (v := nI 0) rfl (by decide) ?_
  refine V_zaldZ rfl (by repeat (first | exact hup_eq | assumption | refine Eq.trans (hup_ne (by first | assumption | exact Ne.symm (by assumption) | decide | omega)) ?_)) rfl (by first | omega | decide) (by first | omega | decide) ?_
  refine V_if_eqB rfl (fun z => bad (fun q => by rw [z] at q; cases q.2.2.1)) (fun z1 => ?_)
  refine V_aload_n rfl (by first | rfl | assumption) ?_
  refine V_getf rfl rfl rfl (by repeat (first | exact hup_eq | assumption | refine Eq.trans (hup_ne (by first | assumption | exact Ne.symm (by assumption) | decide | omega)) ?_)) (by first | rfl | assumption) ?_
  refine V_iconst (v := nI 0) rfl (by decide) ?_
  refine V_zaldZ rfl (by repeat (first | exact hup_eq | assumption | refine Eq.trans (hup_ne (by first | assumption | exact Ne.symm (by assumption) | decide | omega)) ?_)) rfl (by first | omega | decide) (by first | omega | decide) ?_
  refine V_if_neB rfl (fun z => bad (fun q => by rw [z] at q; cases q.2.2.2)) (fun z2 => ?_)
  refine V_aload_n rfl (by first | rfl | assumption) ?_
  refine V_getf rfl rfl rfl (by repeat (first | exact hup_eq | assumption | refine Eq.trans (hup_ne (by first | assumption | exact Ne.symm (by assumption) | decide | omega)) ?_)) (by first | rfl | assumption) ?_
  refine V_bipush (v := nI 97) rfl (by decide) ?_
  refine V_icmp_eqN rfl (by omega) (by decide) (fun z3 => ?_) (fun z => bad (fun q => z q.1))
  clear bad hq1
  have hq2 := hq2 ⟨z3, rfl, z1, z2⟩
  obtain ⟨S8, hS8⟩ : ∃ S8, S8 = sE S 0 (sfl (S.1 0) 8 true) := ⟨_, rfl⟩
  have hR8 : RM T S8 G := by rw [hS8]; exact hR.f8
  have hn8 : nm (S8.1 0) 0 = nm (S.1 0) 0 := by rw [hS8, sE_e]; rfl
  obtain ⟨sh, hsh⟩ : ∃ sh, sh = mulB (rw9 (S8.1 0) 3) (sft (gD c) 33) := ⟨_, rfl⟩
  obtain ⟨H, hH⟩ : ∃ H, H = agr T (rw9 (S8.1 0) 4) (rw9 (S8.1 0) 5) (sft (gD c) 1) (pub (S8.1 0)) (sft (gD c) 33) sh := ⟨_, rfl⟩
  obtain ⟨pm, hpm⟩ : ∃ pm, pm = mulB (rw9 (S8.1 0) 3) (sft (gD c) 1) := ⟨_, rfl⟩
  obtain ⟨pr, hpr⟩ : ∃ pr, pr = prf T pm H := ⟨_, rfl⟩
  have U : aRp T S c = if lst (sft (gD c) 1) 32 = lst (S8.2.1 1) 32 ∧ lst (sft (gD c) 65) 32 = lst pr 32 then sE (emt T S8 0 [21]) 0 (tnk T ((emt T S8 0 [21]).1 0) sh H 65 67) else gvu T S8 0 := by
    subst hpr hpm hH hsh hS8
    rfl
  rw [U] at hq2
  clear U hS8
  refine V_aload_n rfl (by first | rfl | assumption) ?_
  refine V_callV (M' := mX12_isProved) (mc := 0) (ms := 0) (bc' := 0) (bs' := 0) rfl cw_X12_357 iv_X12_isProved (by repeat (first | exact hup_eq | assumption | refine Eq.trans (hup_ne (by first | assumption | exact Ne.symm (by assumption) | decide | omega)) ?_)) rfl rfl (Nat.le_of_ble_eq_true rfl) ⟨Nat.le_of_ble_eq_true rfl, Nat.le_of_ble_eq_true rfl⟩ ⟨Nat.le_of_ble_eq_true rfl, Nat.le_of_ble_eq_true rfl⟩ (As := []) (c_mproved (S := S8) (c := c) (Q := fun o G2 => ∃ b hs' R', o = .inl (some (.int (bI b))) ∧ FP PA G G2 ∧ G2.1 140 = some (MO th ta os hs' ps (nI c.length)) ∧ RM T S8 G2 ∧ G2.1 157 = some (YA 640 R') ∧ rowP S8 R' ∧ (∀ j, j < 32 → R' (32 * 11 + j) = sh j) ∧ (∀ j, j < 32 → R' (32 * 13 + j) = H j) ∧ (b = true ↔ lst (sft (gD c) 1) 32 = lst (S8.2.1 1) 32 ∧ lst (sft (gD c) 65) 32 = lst pr 32)) g140 hR8 hrd z3 hsh hH hpm hpr (fun G' hs' R' b h1 h2 h3 h4 h5 h6 h7 h8 => ⟨b, hs', R', rfl, h1, h2, h3, h4, h5, h6, h7, h8⟩)) (fun o G2 h => ?_) (fun E G' h => by obtain ⟨b, _, _, h, _⟩ := h; cases h)
  obtain ⟨b, hs9, R', h, F2, k140, hR2, k157, hRP, h11, h13, hb⟩ := h
  cases h
  clear hsh hH hpm hpr
  refine V_if_eqB rfl (fun q => ?_) (fun q => ?_)
  · rw [if_neg (fun y => by rw [hb.mpr y] at q; cases q)] at hq2
    refine V_aload_n rfl (by first | rfl | assumption) ?_
    refine V_iconst (v := nI 0) rfl (by decide) ?_
    refine V_callV (M' := mX12_giveUp) (mc := 0) (ms := 0) (bc' := 0) (bs' := 0) rfl cw_X12_361 iv_X12_giveUp (by repeat (first | exact hup_eq | assumption | refine Eq.trans (hup_ne (by first | assumption | exact Ne.symm (by assumption) | decide | omega)) ?_)) rfl rfl (Nat.le_of_ble_eq_true rfl) ⟨Nat.le_of_ble_eq_true rfl, Nat.le_of_ble_eq_true rfl⟩ ⟨Nat.le_of_ble_eq_true rfl, Nat.le_of_ble_eq_true rfl⟩ (As := [.int (nI 0)]) (c_mgiveUp (e := 0) (Q := fun o G3 => o = .inl none ∧ ∃ ps', FP PO G2 G3 ∧ G3.1 140 = some (MO th ta os hs9 ps' (nI c.length)) ∧ RM T (gvu T S8 0) G3) (by decide) hqt k140 hR2 (by omega) (fun G3 ps' h1 h2 h3 => ⟨rfl, ps', h1, h2, h3⟩)) (fun o G3 h => ?_) (fun E G' h => by cases h.1)
    obtain ⟨h, ps', F3, j140, hR3⟩ := h
    cases h
    refine V_iconst (v := bI true) rfl (by decide) ?_
    exact V_zret rfl rfl (bI_01 _) (hq2 _ _ _ (F2.trans F3 (fun x hx => by show _ ∨ _; omega)) j140 hR3)
  · rw [if_pos (hb.mp q)] at hq2
    refine V_aload_n rfl (by first | rfl | assumption) ?_
    refine V_iconst (v := nI 0) rfl (by decide) ?_
    refine V_callV (M' := mX12_makeKeys) (mc := 0) (ms := 0) (bc' := 0) (bs' := 0) rfl cw_X12_333 iv_X12_makeKeys (by repeat (first | exact hup_eq | assumption | refine Eq.trans (hup_ne (by first | assumption | exact Ne.symm (by assumption) | decide | omega)) ?_)) rfl rfl (Nat.le_of_ble_eq_true rfl) ⟨Nat.le_of_ble_eq_true rfl, Nat.le_of_ble_eq_true rfl⟩ ⟨Nat.le_of_ble_eq_true rfl, Nat.le_of_ble_eq_true rfl⟩ (As := [.int (nI 0)]) (c_mkeys (e := 0) (sh := sh) (H := H) (Q := fun o G3 => o = .inl none ∧ ∃ hs' NK, FP (fun j => PK j ∨ j = 172) G2 G3 ∧ RM T (sE S8 0 (mkS T (ses (S8.1 0) H) sh H 67)) G3 ∧ G3.1 140 = some (MO th ta os hs' ps (nI c.length)) ∧ G3.1 161 = some (YA 256 NK) ∧ (∀ j, NK j < 256) ∧ (∀ j, j < 32 → NK (128 * 0 + j) = kyH T sh H (rw9 (ses (S8.1 0) H) 2) 65 j ∧ NK (128 * 0 + 32 + j) = kyH T sh H (rw9 (ses (S8.1 0) H) 2) (65 + 1) j)) (by decide) k140 hR2 k157 hRP h11 h13 (fun G3 hs' NK h1 h2 h3 h4 h5 h6 => ⟨rfl, hs', NK, h1, h2, h3, h4, h5, h6⟩)) (fun o G3 h => ?_) (fun E G' h => by cases h.1)
    obtain ⟨h, hs8, NK, F3, hRM3, j140, j161, hNb, hNk⟩ := h
    cases h
    have hcom := emt_com (T := T) (S := S8) (e := 0) (p := [21]) (f := fun s => mkS T (ses s H) sh H 67) (by decide) f_com.1 f_com.2.1 f_com.2.2
    have hss : rw9 (ses ((emt T S8 0 [21]).1 0) H) 2 = rw9 (ses (S8.1 0) H) 2 := by
      have e1 : rw9 ((emt T S8 0 [21]).1 0) = rw9 (S8.1 0) := (emt_rw (by decide)).1
      have e2 : fl ((emt T S8 0 [21]).1 0) 1 = fl (S8.1 0) 1 := emt_f1
      unfold ses
      rw [e2]
      split
      · rw [e1]
      · rfl
    refine V_aload_n rfl (by first | rfl | assumption) ?_
    refine V_iconst (v := nI 0) rfl (by decide) ?_
    refine V_callV (M' := mX12_postNew) (mc := 0) (ms := 0) (bc' := 0) (bs' := 0) rfl cw_X12_336 iv_X12_postNew (by repeat (first | exact hup_eq | assumption | refine Eq.trans (hup_ne (by first | assumption | exact Ne.symm (by assumption) | decide | omega)) ?_)) rfl rfl (Nat.le_of_ble_eq_true rfl) ⟨Nat.le_of_ble_eq_true rfl, Nat.le_of_ble_eq_true rfl⟩ ⟨Nat.le_of_ble_eq_true rfl, Nat.le_of_ble_eq_true rfl⟩ (As := [.int (nI 0)]) (c_mpostNew (e := 0) (NK := NK) (k0 := kyH T sh H (rw9 (ses (S8.1 0) H) 2) 65) (k1 := kyH T sh H (rw9 (ses (S8.1 0) H) 2) (65 + 1)) (Q := fun o G4 => o = .inl none ∧ ∃ ps', FP PN G3 G4 ∧ G4.1 140 = some (MO th ta os hs8 ps' (nI c.length)) ∧ RM T (sE (emt T (sE S8 0 (mkS T (ses (S8.1 0) H) sh H 67)) 0 [21]) 0 (nwS ((emt T (sE S8 0 (mkS T (ses (S8.1 0) H) sh H 67)) 0 [21]).1 0) (kyH T sh H (rw9 (ses (S8.1 0) H) 2) 65) (kyH T sh H (rw9 (ses (S8.1 0) H) 2) (65 + 1)))) G4) (by decide) hqt j140 hRM3 (by rw [sE_e, (f_com (T := T) (H := H) (sh := sh) (cm := 67)).2.2 (S8.1 0) |>.2.2.2.2]; omega) j161 hNb hNk (fun G3 ps' h1 h2 h3 => ⟨rfl, ps', h1, h2, h3⟩)) (fun o G4 h => ?_) (fun E G' h => by cases h.1)
    obtain ⟨h, ps8, F4, i140, hRM4⟩ := h
    cases h
    refine V_goto rfl ?_
    refine V_iconst (v := bI true) rfl (by decide) ?_
    refine V_zret rfl rfl (bI_01 _) (hq2 _ _ _ ((F2.trans F3 (fun x hx => by show _ ∨ _; omega)).trans F4 (fun x hx => by show _ ∨ _; omega)) i140 ?_)
    rw [hcom, sE_sE, sE_e, ← hss, tnk_mk] at hRM4
    exact hRM4
end MPlace3
