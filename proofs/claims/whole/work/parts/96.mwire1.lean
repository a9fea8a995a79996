/-! the reference: small steps of the wire -/
section MWire1
variable {K : kK} {G : kG} {Q : kO → kG → Prop} {T : TB} {S : SG} {th ta os hs ps rs : Int32}
theorem scM.pl {p : List Nat} {G' : kG} (h : scM T G) (F : FP PP2 G G') (hp : plM p G') : scM T G' := by
  obtain ⟨⟨D, a⟩, b, c, d, f, g, i, k⟩ := h
  exact ⟨⟨D, a.fp (fun j _ _ => F.2 j (by omega))⟩, b.fp (fun j _ _ => F.2 j (by omega)), c.fp (F.2 _ (by decide)), d.fp (fun j _ _ => F.2 j (by omega)), f.fp (fun j _ _ => F.2 j (by omega)), hp.y, i.fp (F.2 _ (by decide)), k.fp (F.2 _ (by decide))⟩
theorem RM.pl {p : List Nat} {G' : kG} (h : RM T S G) (F : FP PP2 G G') (hp : plM p G') : RM T S G' := h.sc (h.1.pl F hp) (fun j a b => F.2 j (by omega))
theorem sE_self {e : Nat} : sE S e (S.1 e) = S := by
  unfold sE
  refine Prod.ext ?_ rfl
  funext j
  unfold up
  show (if j = e then S.1 e else S.1 j) = S.1 j
  split
  · rename_i h; rw [h]
  · rfl
abbrev PO (j : Nat) : Prop := PW j ∨ PP2 j
theorem c_mpostOne {e m : Nat} (he : e < 2) (hm : m < 256) (hqt : qtO T.2.2) (g140 : G.1 140 = some (MO th ta os hs ps rs)) (hR : RM T S G) (hsent : nm (S.1 e) 0 < 2 ^ 31)
    (hq : ∀ G' ps', FP PO G G' → G'.1 140 = some (MO th ta os hs ps' rs) → RM T (emt T S e [m]) G' → Q (.inl none) G') : C K 0 0 mX12_postOne [.ref 140, .int (nI e), .int (nI m)] G Q := by
  refine C_of okX12_postOne (Nat.le_of_ble_eq_true rfl) ?_
  refine V_aload_n rfl (by first | rfl | assumption) ?_
  refine V_iconst (v := nI 0) rfl (by decide) ?_
  refine V_pf_ps rfl rfl rfl (by repeat (first | exact hup_eq | assumption | refine Eq.trans (hup_ne (by first | assumption | exact Ne.symm (by assumption) | decide | omega)) ?_)) ?_
  refine V_aload_n rfl (by first | rfl | assumption) ?_
  refine V_iload_n rfl (by first | rfl | assumption) ?_
  have hp0 : plM [] (hup G 140 (MO th ta os hs (nI 0) rs)) := (plM.nl hR.1.2.2.2.2.2.1).fp (hup_ne (by decide))
  refine V_callV (M' := mX12_say) (mc := 0) (ms := 0) (bc' := 0) (bs' := 0) rfl cw_X12_307 iv_X12_say (by repeat (first | exact hup_eq | assumption | refine Eq.trans (hup_ne (by first | assumption | exact Ne.symm (by assumption) | decide | omega)) ?_)) rfl rfl (Nat.le_of_ble_eq_true rfl) ⟨Nat.le_of_ble_eq_true rfl, Nat.le_of_ble_eq_true rfl⟩ ⟨Nat.le_of_ble_eq_true rfl, Nat.le_of_ble_eq_true rfl⟩ (As := [.int (nI m)]) (c_msay (p := []) (Q := fun o G2 => o = .inl none ∧ FP PP2 (hup G 140 (MO th ta os hs (nI 0) rs)) G2 ∧ G2.1 140 = some (MO th ta os hs (nI [m].length) rs) ∧ plM [m] G2) hup_eq hp0 (by decide) (fun G2 h1 h2 h3 => ?_)) (fun o G2 h => ?_) (fun E G' h => by cases h.1)
  · have e : ([] : List Nat) ++ [lw (nI m)] = [m] := by rw [lw_N, Nat.mod_eq_of_lt hm]; rfl
    rw [e] at h2 h3
    exact ⟨rfl, h1, h2, h3⟩
  obtain ⟨h, F2, k140, kp⟩ := h
  cases h
  have F : FP PP2 G G2 := (FP.rf.hup (by decide)).trans F2 (fun _ q => q)
  have hR2 : RM T S G2 := hR.pl F kp
  refine V_aload_n rfl (by first | rfl | assumption) ?_
  refine V_iload_n rfl (by first | rfl | assumption) ?_
  refine V_callV (M' := mX12_post) (mc := 0) (ms := 0) (bc' := 0) (bs' := 0) rfl cw_X12_310 iv_X12_post (by repeat (first | exact hup_eq | assumption | refine Eq.trans (hup_ne (by first | assumption | exact Ne.symm (by assumption) | decide | omega)) ?_)) rfl rfl (Nat.le_of_ble_eq_true rfl) ⟨Nat.le_of_ble_eq_true rfl, Nat.le_of_ble_eq_true rfl⟩ ⟨Nat.le_of_ble_eq_true rfl, Nat.le_of_ble_eq_true rfl⟩ (As := [.int (nI e)]) (c_mpost (Q := fun o G3 => o = .inl none ∧ FP PW G2 G3 ∧ RM T (emt T S e [m]) G3) he hqt k140 hR2 kp (Nat.le_of_ble_eq_true rfl) hsent (fun G3 h1 h2 => ⟨rfl, h1, h2⟩)) (fun o G3 h => ?_) (fun E G' h => by cases h.1)
  obtain ⟨h, F3, hR3⟩ := h
  cases h
  exact V_vret rfl rfl (hq _ _ ((F.sub (fun _ q => Or.inr q)).trans F3 (fun _ q => Or.inl q)) (F3.get (by decide) k140) hR3)
theorem c_mgiveUp {e : Nat} (he : e < 2) (hqt : qtO T.2.2) (g140 : G.1 140 = some (MO th ta os hs ps rs)) (hR : RM T S G) (hsent : nm (S.1 e) 0 < 2 ^ 31)
    (hq : ∀ G' ps', FP PO G G' → G'.1 140 = some (MO th ta os hs ps' rs) → RM T (gvu T S e) G' → Q (.inl none) G') : C K 0 0 mX12_giveUp [.ref 140, .int (nI e)] G Q := by
  refine C_of okX12_giveUp (Nat.le_of_ble_eq_true rfl) ?_
  refine V_aload_n rfl (by first | rfl | assumption) ?_
  refine V_iload_n rfl (by first | rfl | assumption) ?_
  refine V_iconst (v := nI 1) rfl (by decide) ?_
  refine V_callV (M' := mX12_postOne) (mc := 0) (ms := 0) (bc' := 0) (bs' := 0) rfl cw_X12_313 iv_X12_postOne (by repeat (first | exact hup_eq | assumption | refine Eq.trans (hup_ne (by first | assumption | exact Ne.symm (by assumption) | decide | omega)) ?_)) rfl rfl (Nat.le_of_ble_eq_true rfl) ⟨Nat.le_of_ble_eq_true rfl, Nat.le_of_ble_eq_true rfl⟩ ⟨Nat.le_of_ble_eq_true rfl, Nat.le_of_ble_eq_true rfl⟩ (As := [.int (nI e), .int (nI 1)]) (c_mpostOne (Q := fun o G2 => o = .inl none ∧ ∃ ps', FP PO G G2 ∧ G2.1 140 = some (MO th ta os hs ps' rs) ∧ RM T (emt T S e [1]) G2) he (by decide) hqt g140 hR hsent (fun G2 ps' h1 h2 h3 => ⟨rfl, ps', h1, h2, h3⟩)) (fun o G2 h => ?_) (fun E G' h => by cases h.1)
  obtain ⟨h, ps', F2, k140, hR2⟩ := h
  cases h
  have f0 := hR2.2.2.2.2.2.2.2.2.1.1
  refine V_aload_n rfl (by first | rfl | assumption) ?_
  refine V_getf rfl rfl rfl (by repeat (first | exact hup_eq | assumption | refine Eq.trans (hup_ne (by first | assumption | exact Ne.symm (by assumption) | decide | omega)) ?_)) (by first | rfl | assumption) ?_
  refine V_iload_n rfl (by first | rfl | assumption) ?_
  refine V_iconst (v := nI 1) rfl (by decide) ?_
  refine V_zastZ true rfl (by repeat (first | exact hup_eq | assumption | refine Eq.trans (hup_ne (by first | assumption | exact Ne.symm (by assumption) | decide | omega)) ?_)) (by decide) rfl (by first | omega | decide) (by first | omega | decide) ?_
  exact V_vret rfl rfl (hq _ ps' (F2.hup (by decide)) ((hup_ne (by decide)).trans k140) hR2.f0)
/-- the wire alone changes -/
theorem RM.w {S' : SG} {G' : kG} (h : RM T S G) (hw : rWi S' G') (es : ∀ j, fl (S'.1 j) = fl (S.1 j) ∧ nm (S'.1 j) = nm (S.1 j) ∧ un (S'.1 j) = un (S.1 j) ∧ gt (S'.1 j) = gt (S.1 j) ∧ rw9 (S'.1 j) = rw9 (S.1 j)) (e2 : S'.2.1 = S.2.1) (e : ∀ j, 143 ≤ j → j ≤ 181 → ¬ (176 ≤ j ∧ j ≤ 178) → G'.1 j = G.1 j) : RM T S' G' := by
  obtain ⟨h1, h2, h3, h4, h5, h6, h7, h8, h9, h10⟩ := h
  refine ⟨h1.fp (fun j hj => e j (by omega) (by omega) (by omega)), (h2.fp (e _ (by decide) (by decide) (by decide))).st (fun j _ => by rw [(es j).2.2.2.2]; exact ⟨rfl, rfl, rfl⟩) e2, (h3.fp (e _ (by decide) (by decide) (by decide))).st (fun j _ => by rw [(es j).2.2.2.2]), (h4.fp (e _ (by decide) (by decide) (by decide))).st (fun j _ => by rw [(es j).2.2.2.2]; exact ⟨rfl, rfl⟩), (h5.fp (e _ (by decide) (by decide) (by decide))).st (fun j _ => by rw [(es j).2.2.2.2]; exact ⟨rfl, rfl, rfl, rfl⟩), (h6.fp (e _ (by decide) (by decide) (by decide))).st (fun j _ => by rw [(es j).2.2.2.2]; exact ⟨rfl, rfl⟩), (h7.fp (fun j _ _ => e j (by omega) (by omega) (by omega))).st (fun j => (es j).2.2.2.1), hw, (h9.fp (fun j _ _ => e j (by omega) (by omega) (by omega))).st (fun j k _ => by rw [(es j).1]), (h10.fp (fun j _ _ => e j (by omega) (by omega) (by omega))).st (fun j => ⟨(es j).2.1, (es j).2.2.1⟩)⟩
theorem es_swi {e : Nat} {l : List (List Nat)} : ∀ j, fl ((sE S e (swi (S.1 e) l)).1 j) = fl (S.1 j) ∧ nm ((sE S e (swi (S.1 e) l)).1 j) = nm (S.1 j) ∧ un ((sE S e (swi (S.1 e) l)).1 j) = un (S.1 j) ∧ gt ((sE S e (swi (S.1 e) l)).1 j) = gt (S.1 j) ∧ rw9 ((sE S e (swi (S.1 e) l)).1 j) = rw9 (S.1 j) := fun j => ⟨sE_fl (S := S) (e := e) (s := swi (S.1 e) l) rfl j, sE_nm (S := S) (e := e) (s := swi (S.1 e) l) rfl j, sE_un (S := S) (e := e) (s := swi (S.1 e) l) rfl j, sE_gt (S := S) (e := e) (s := swi (S.1 e) l) rfl j, sE_rw (S := S) (e := e) (s := swi (S.1 e) l) rfl j⟩
theorem getD_drop1 {ls : List (List Nat)} {k : Nat} : (ls.drop 1).getD k [] = ls.getD (k + 1) [] := by
  simp [List.getD, Nat.add_comm]
set_option maxHeartbeats 4000000 in
theorem c_mdrop {e : Nat} (he : e < 2) (g140 : G.1 140 = some (MO th ta os hs ps rs)) (hR : RM T S G) (hl1 : 0 < (wi (S.1 e)).length)
    (hq : ∀ G', FP (fun j => 176 ≤ j ∧ j ≤ 178) G G' → RM T (sE S e (swi (S.1 e) ((wi (S.1 e)).drop 1))) G' → Q (.inl none) G') : C K 0 0 mX12_dropFirst [.ref 140, .int (nI e)] G Q := by
  obtain ⟨w176, z, w, g177, g178, hwb, hz⟩ := id hR.2.2.2.2.2.2.2.1
  obtain ⟨L, hL⟩ : ∃ L, L + 1 = (wi (S.1 e)).length := ⟨(wi (S.1 e)).length - 1, by omega⟩
  have hL12 : L + 1 ≤ 12 := by rw [hL]; exact (hz e he).1
  refine C_of okX12_dropFirst (Nat.le_of_ble_eq_true rfl) ?_
  refine V_aload_n rfl (by first | rfl | assumption) ?_
  refine V_getf rfl rfl rfl (by repeat (first | exact hup_eq | assumption | refine Eq.trans (hup_ne (by first | assumption | exact Ne.symm (by assumption) | decide | omega)) ?_)) (by first | rfl | assumption) ?_
  refine V_iload_n rfl (by first | rfl | assumption) ?_
  refine V_dup2 rfl rfl rfl ?_
  refine V_ialdN rfl (by repeat (first | exact hup_eq | assumption | refine Eq.trans (hup_ne (by first | assumption | exact Ne.symm (by assumption) | decide | omega)) ?_)) rfl (by first | omega | decide) (by first | omega | decide) ?_
  rw [← hL]
  refine V_iconst (v := nI 1) rfl (by decide) ?_
  refine V_isubN rfl (by first | omega | decide) ?_
  refine V_iastN rfl (by repeat (first | exact hup_eq | assumption | refine Eq.trans (hup_ne (by first | assumption | exact Ne.symm (by assumption) | decide | omega)) ?_)) rfl (by first | omega | decide) (by first | omega | decide) ?_
  refine V_iconst (v := nI 0) rfl (by decide) ?_
  refine V_istore_n rfl (by decide) ?_
  rw [Nat.add_sub_cancel]
  have LP := V_loop (K := K) (bc := 0) (bs := 0) (M := mX12_dropFirst) (head := 12) (Q := Q) L (fun i lc G' => lc 0 = some (.ref 140) ∧ lc 1 = some (.int (nI e)) ∧ lc 2 = some (.int (nI i)) ∧ ∃ z' w', (∀ k, k < i → z' (12 * e + k) = z (12 * e + k + 1)) ∧ (∀ j, j < 12 * e ∨ 12 * e + i ≤ j → z' j = z j) ∧ (∀ j, 2880 * e ≤ j → j < 2880 * e + 240 * i → w' j = w (j + 240)) ∧ (∀ j, j < 2880 * e ∨ 2880 * e + 240 * i ≤ j → w' j = w j) ∧ (∀ j, w' j < 256) ∧ G' = hup (hup (hup G 176 (BA 2 (updN (fun j => (wi (S.1 j)).length) e L))) 177 (BA 24 z')) 178 (YA 5760 w')) ?_ ?_
  · exact LP 0 _ _ (Nat.zero_le _) ⟨rfl, rfl, rfl, z, w, fun k hk => absurd hk (Nat.not_lt_zero k), fun _ _ => rfl, fun j _ _ => by omega, fun _ _ => rfl, hwb, by rw [hup_same (k := 177) ((hup_ne (by decide)).trans g177), hup_same (k := 178) ((hup_ne (by decide)).trans g178)]⟩
  · rintro i lc G' hi ⟨l0, l1, l2, z', w', a1, a2, a3, a4, a5, rfl⟩ ih
    refine V_iload_n rfl (by first | rfl | assumption) ?_
    refine V_aload_n rfl (by first | rfl | assumption) ?_
    refine V_getf rfl rfl rfl (by repeat (first | exact hup_eq | assumption | refine Eq.trans (hup_ne (by first | assumption | exact Ne.symm (by assumption) | decide | omega)) ?_)) (by first | rfl | assumption) ?_
    refine V_iload_n rfl (by first | rfl | assumption) ?_
    refine V_ialdN rfl (by repeat (first | exact hup_eq | assumption | refine Eq.trans (hup_ne (by first | assumption | exact Ne.symm (by assumption) | decide | omega)) ?_)) rfl (by first | omega | decide) (by first | omega | decide) ?_
    rw [updN_eq]
    refine V_icmp_geN rfl (by omega) (by omega) (fun h => absurd h (by omega)) (fun _ => ?_)
    refine V_aload_n rfl (by first | rfl | assumption) ?_
    refine V_getf rfl rfl rfl (by repeat (first | exact hup_eq | assumption | refine Eq.trans (hup_ne (by first | assumption | exact Ne.symm (by assumption) | decide | omega)) ?_)) (by first | rfl | assumption) ?_
    refine V_bipush (v := nI 12) rfl (by decide) ?_
    refine V_iload_n rfl (by first | rfl | assumption) ?_
    refine V_imulN rfl ?_
    refine V_iload_n rfl (by first | rfl | assumption) ?_
    refine V_iaddN rfl ?_
    refine V_aload_n rfl (by first | rfl | assumption) ?_
    refine V_getf rfl rfl rfl (by repeat (first | exact hup_eq | assumption | refine Eq.trans (hup_ne (by first | assumption | exact Ne.symm (by assumption) | decide | omega)) ?_)) (by first | rfl | assumption) ?_
    refine V_bipush (v := nI 12) rfl (by decide) ?_
    refine V_iload_n rfl (by first | rfl | assumption) ?_
    refine V_imulN rfl ?_
    refine V_iload_n rfl (by first | rfl | assumption) ?_
    refine V_iaddN rfl ?_
    refine V_iconst (v := nI 1) rfl (by decide) ?_
    refine V_iaddN rfl ?_
    refine V_ialdN rfl (by repeat (first | exact hup_eq | assumption | refine Eq.trans (hup_ne (by first | assumption | exact Ne.symm (by assumption) | decide | omega)) ?_)) rfl (by first | omega | decide) (by first | omega | decide) ?_
    refine V_iastN rfl (by repeat (first | exact hup_eq | assumption | refine Eq.trans (hup_ne (by first | assumption | exact Ne.symm (by assumption) | decide | omega)) ?_)) rfl (by first | omega | decide) (by first | omega | decide) ?_
    refine V_iconst (v := nI 0) rfl (by decide) ?_
    refine V_istore_n rfl (by decide) ?_
    rw [a2 (12 * e + i + 1) (by omega), hup3 (by decide)]
    refine V_loop 240 (fun m lc G' => lc 0 = some (.ref 140) ∧ lc 1 = some (.int (nI e)) ∧ lc 2 = some (.int (nI i)) ∧ lc 3 = some (.int (nI m)) ∧ ∃ w2, (∀ j, 2880 * e ≤ j → j < 2880 * e + 240 * i + m → w2 j = w (j + 240)) ∧ (∀ j, j < 2880 * e ∨ 2880 * e + 240 * i + m ≤ j → w2 j = w j) ∧ (∀ j, w2 j < 256) ∧ G' = hup (hup (hup G 176 (BA 2 (updN (fun j => (wi (S.1 j)).length) e L))) 177 (BA 24 (updN z' (12 * e + i) (z (12 * e + i + 1))))) 178 (YA 5760 w2)) ?_ ?_ 0 _ _ (Nat.zero_le _) ⟨l0, l1, l2, rfl, w', a3, a4, a5, rfl⟩
    · rintro m lc G' hm ⟨l0, l1, l2, l3, w2, b1, b2, b3, rfl⟩ ih2
      refine V_iload_n rfl (by first | rfl | assumption) ?_
      refine V_sipush (v := nI 240) rfl (by decide) ?_
      refine V_icmp_geN rfl (by omega) (by decide) (fun h => absurd h (by omega)) (fun _ => ?_)
      have hb := b3 (240 * (12 * e + i + 1) + m)
      refine V_aload_n rfl (by first | rfl | assumption) ?_
      refine V_getf rfl rfl rfl (by repeat (first | exact hup_eq | assumption | refine Eq.trans (hup_ne (by first | assumption | exact Ne.symm (by assumption) | decide | omega)) ?_)) (by first | rfl | assumption) ?_
      refine V_sipush (v := nI 240) rfl (by decide) ?_
      refine V_bipush (v := nI 12) rfl (by decide) ?_
      refine V_iload_n rfl (by first | rfl | assumption) ?_
      refine V_imulN rfl ?_
      refine V_iload_n rfl (by first | rfl | assumption) ?_
      refine V_iaddN rfl ?_
      refine V_imulN rfl ?_
      refine V_iload_n rfl (by first | rfl | assumption) ?_
      refine V_iaddN rfl ?_
      refine V_aload_n rfl (by first | rfl | assumption) ?_
      refine V_getf rfl rfl rfl (by repeat (first | exact hup_eq | assumption | refine Eq.trans (hup_ne (by first | assumption | exact Ne.symm (by assumption) | decide | omega)) ?_)) (by first | rfl | assumption) ?_
      refine V_sipush (v := nI 240) rfl (by decide) ?_
      refine V_bipush (v := nI 12) rfl (by decide) ?_
      refine V_iload_n rfl (by first | rfl | assumption) ?_
      refine V_imulN rfl ?_
      refine V_iload_n rfl (by first | rfl | assumption) ?_
      refine V_iaddN rfl ?_
      refine V_iconst (v := nI 1) rfl (by decide) ?_
      refine V_iaddN rfl ?_
      refine V_imulN rfl ?_
      refine V_iload_n rfl (by first | rfl | assumption) ?_
      refine V_iaddN rfl ?_
      refine V_baldB rfl (by repeat (first | exact hup_eq | assumption | refine Eq.trans (hup_ne (by first | assumption | exact Ne.symm (by assumption) | decide | omega)) ?_)) rfl (by first | omega | decide) (by first | omega | decide) ?_
      refine V_bastB rfl (by repeat (first | exact hup_eq | assumption | refine Eq.trans (hup_ne (by first | assumption | exact Ne.symm (by assumption) | decide | omega)) ?_)) rfl (by first | omega | decide) (by first | omega | decide) (by first | assumption | solve_by_elim | exact Nat.mod_lt _ (by decide) | omega) ?_
      refine V_iincN (d := 1) rfl (by first | rfl | assumption) (by decide) (by decide) ?_
      refine V_goto rfl ?_
      rw [hup_hup]
      refine ih2 _ _ ⟨l0, l1, l2, rfl, _, fun j h1 h2 => ?_, fun j h1 => ?_, fun j => ?_, rfl⟩
      · by_cases x : j = 240 * (12 * e + i) + m
        · rw [x, updN_eq, b2 _ (by omega)]; congr 1; omega
        · rw [updN_ne x]; exact b1 j h1 (by omega)
      · rw [updN_ne (by omega)]; exact b2 j (by omega)
      · by_cases x : j = 240 * (12 * e + i) + m
        · rw [x, updN_eq]; exact hb
        · rw [updN_ne x]; exact b3 j
    · rintro lc G' ⟨l0, l1, l2, l3, w2, b1, b2, b3, rfl⟩
      refine V_iload_n rfl (by first | rfl | assumption) ?_
      refine V_sipush (v := nI 240) rfl (by decide) ?_
      refine V_icmp_geN rfl (by decide) (by decide) (fun _ => ?_) (fun h => absurd (Nat.le_refl _) h)
      refine V_iincN (d := 1) rfl (by first | rfl | assumption) (by decide) (by decide) ?_
      refine V_goto rfl ?_
      refine ih _ _ ⟨l0, l1, rfl, _, w2, fun k hk => ?_, fun j hj => ?_, fun j h1 h2 => b1 j h1 (by omega), fun j h1 => b2 j (by omega), b3, rfl⟩
      · by_cases x : k = i
        · rw [x, updN_eq]
        · rw [updN_ne (by omega)]; exact a1 k (by omega)
      · rw [updN_ne (by omega)]; exact a2 j (by omega)
  · rintro lc G' ⟨l0, l1, l2, z', w', a1, a2, a3, a4, a5, rfl⟩
    refine V_iload_n rfl (by first | rfl | assumption) ?_
    refine V_aload_n rfl (by first | rfl | assumption) ?_
    refine V_getf rfl rfl rfl (by repeat (first | exact hup_eq | assumption | refine Eq.trans (hup_ne (by first | assumption | exact Ne.symm (by assumption) | decide | omega)) ?_)) (by first | rfl | assumption) ?_
    refine V_iload_n rfl (by first | rfl | assumption) ?_
    refine V_ialdN rfl (by repeat (first | exact hup_eq | assumption | refine Eq.trans (hup_ne (by first | assumption | exact Ne.symm (by assumption) | decide | omega)) ?_)) rfl (by first | omega | decide) (by first | omega | decide) ?_
    rw [updN_eq]
    refine V_icmp_geN rfl (by omega) (by omega) (fun _ => ?_) (fun h => absurd (Nat.le_refl _) h)
    have ld : ((wi (S.1 e)).drop 1).length = L := by rw [List.length_drop, ← hL]; rfl
    refine V_vret rfl rfl (hq _ (((FP.rf.hup (by omega)).hup (by omega)).hup (by omega)) (hR.w ?_ es_swi rfl (fun j _ _ h => (hup_ne (by omega)).trans ((hup_ne (by omega)).trans (hup_ne (by omega))))))
    refine ⟨?_, z', w', (hup_ne (by decide)).trans hup_eq, hup_eq, a5, fun i hi => ?_⟩
    · rw [hup_ne (by decide), hup_ne (by decide), hup_eq]
      refine congrArg (fun f => some (BA 2 f)) ?_
      rw [pj_up (S := S) (fun s => (wi s).length) (e := e) (s := swi (S.1 e) ((wi (S.1 e)).drop 1))]
      show _ = up _ e ((wi (S.1 e)).drop 1).length
      rw [ld]
      rfl
    · by_cases x : i = e
      · subst x
        have ew : wi ((sE S i (swi (S.1 i) ((wi (S.1 i)).drop 1))).1 i) = (wi (S.1 i)).drop 1 := by rw [sE_e]; rfl
        have ep : ∀ k, pkA (sE S i (swi (S.1 i) ((wi (S.1 i)).drop 1))) i k = pkA S i (k + 1) := fun k => by unfold pkA; rw [ew, getD_drop1]
        rw [ew, ld]
        refine ⟨by omega, fun k hk => ?_⟩
        rw [ep k]
        have := (hz i hi).2 (k + 1) (by omega)
        refine ⟨by rw [a1 k hk]; exact this.1, this.2.1, fun j hj => ?_⟩
        rw [a3 _ (by omega) (by omega), ← this.2.2 j hj]
        congr 1
        omega
      · have ew : (sE S e (swi (S.1 e) ((wi (S.1 e)).drop 1))).1 i = S.1 i := sE_n x
        have ep : ∀ k, pkA (sE S e (swi (S.1 e) ((wi (S.1 e)).drop 1))) i k = pkA S i k := fun k => by unfold pkA; rw [ew]
        rw [ew]
        refine ⟨(hz i hi).1, fun k hk => ?_⟩
        rw [ep k]
        have := (hz i hi).2 k hk
        have hl12 := (hz i hi).1
        refine ⟨by rw [a2 _ (by omega)]; exact this.1, this.2.1, fun j hj => ?_⟩
        rw [a4 _ (by omega)]
        exact this.2.2 j hj
end MWire1
