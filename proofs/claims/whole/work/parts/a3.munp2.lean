section MUnp2
variable {K : kK} {G : kG} {Q : kO → kG → Prop} {T : TB} {S : SG} {th ta os hs ps rs : Int32}
theorem scM.rd {G' : kG} (h : scM T G) (h2 : yM 180 240 G') (e : ∀ j, (143 ≤ j ∧ j ≤ 156) ∨ j = 179 ∨ j = 181 → G'.1 j = G.1 j) : scM T G' := by
  obtain ⟨⟨D, a⟩, b, c, d, f, g, i, k⟩ := h
  exact ⟨⟨D, a.fp (fun j _ _ => e j (by omega))⟩, b.fp (fun j _ _ => e j (by omega)), c.fp (e _ (by omega)), d.fp (fun j _ _ => e j (by omega)), f.fp (fun j _ _ => e j (by omega)), g.fp (e _ (by omega)), h2, k.fp (e _ (by omega))⟩
theorem scM.op {G' : kG} (h : scM T G) (h2 : yM 181 260 G') (e : ∀ j, (143 ≤ j ∧ j ≤ 156) ∨ j = 179 ∨ j = 180 → G'.1 j = G.1 j) : scM T G' := by
  obtain ⟨⟨D, a⟩, b, c, d, f, g, i, k⟩ := h
  exact ⟨⟨D, a.fp (fun j _ _ => e j (by omega))⟩, b.fp (fun j _ _ => e j (by omega)), c.fp (e _ (by omega)), d.fp (fun j _ _ => e j (by omega)), f.fp (fun j _ _ => e j (by omega)), g.fp (e _ (by omega)), i.fp (e _ (by omega)), h2⟩
set_option maxHeartbeats 16000000 in
theorem c_munpack {e : Nat} (he : e < 2) (hqt : qtO T.2.2) (g140 : G.1 140 = some (MO th ta os hs ps rs)) (hR : RM T S G) (hl1 : 0 < (wi (S.1 e)).length) (hcame : nm (S.1 e) 1 < 2 ^ 31)
    (hq1 : opn T (fl (S.1 e) 7) (rw9 (S.1 e) 8) (rw9 (S.1 e) 9) (nm (S.1 e) 1) ((wi (S.1 e)).getD 0 []) = none → ∀ G' rs', FP PU G G' → G'.1 140 = some (MO th ta os hs ps rs') → RM T (sE S e (swi (S.1 e) ((wi (S.1 e)).drop 1))) G' → Q (.inl (some (.int (bI false)))) G')
    (hq2 : ∀ p, opn T (fl (S.1 e) 7) (rw9 (S.1 e) 8) (rw9 (S.1 e) 9) (nm (S.1 e) 1) ((wi (S.1 e)).getD 0 []) = some p → ∀ G', FP PU G G' → G'.1 140 = some (MO th ta os hs ps (nI p.length)) → RM T (sE S e (swi (S.1 e) ((wi (S.1 e)).drop 1))) G' → rdM p G' → Q (.inl (some (.int (bI true)))) G') : C K 0 0 mX12_unpack [.ref 140, .int (nI e)] G Q := by
  obtain ⟨w176, z, w, g177, g178, hwb, hz⟩ := id hR.2.2.2.2.2.2.2.1
  obtain ⟨ob0, g181, hob0⟩ := id hR.1.2.2.2.2.2.2.2
  obtain ⟨l, hl⟩ : ∃ l, l = (wi (S.1 e)).getD 0 [] := ⟨_, rfl⟩
  have hzl := (hz e he).2 0 hl1
  rw [show pkA S e 0 = l from hl.symm, Nat.add_zero] at hzl
  obtain ⟨z1, z2, z3⟩ := hzl
  rw [← hl] at hq1 hq2
  obtain ⟨L, hL⟩ : ∃ L, L = l.length := ⟨_, rfl⟩
  rw [← hL] at z1 z2 z3
  refine C_of okX12_unpack (Nat.le_of_ble_eq_true rfl) ?_
  refine V_sipush (v := nI 2880) rfl (by decide) ?_
  refine V_iload_n rfl (by first | rfl | assumption) ?_
  refine V_imulN rfl ?_
  refine V_istore_n rfl (by decide) ?_
  refine V_aload_n rfl (by first | rfl | assumption) ?_
  refine V_getf rfl rfl rfl (by repeat (first | exact hup_eq | assumption | refine Eq.trans (hup_ne (by first | assumption | exact Ne.symm (by assumption) | decide | omega)) ?_)) (by first | rfl | assumption) ?_
  refine V_bipush (v := nI 12) rfl (by decide) ?_
  refine V_iload_n rfl (by first | rfl | assumption) ?_
  refine V_imulN rfl ?_
  refine V_ialdN rfl (by repeat (first | exact hup_eq | assumption | refine Eq.trans (hup_ne (by first | assumption | exact Ne.symm (by assumption) | decide | omega)) ?_)) rfl (by first | omega | decide) (by first | omega | decide) ?_
  rw [z1]
  refine V_istore_n rfl (by decide) ?_
  refine V_iconst (v := nI 0) rfl (by decide) ?_
  refine V_istore rfl (by decide) ?_
  have LP := V_loop (K := K) (bc := 0) (bs := 0) (M := mX12_unpack) (head := 19) (Q := Q) L (fun i lc G' => lc 0 = some (.ref 140) ∧ lc 1 = some (.int (nI e)) ∧ lc 2 = some (.int (nI (2880 * e))) ∧ lc 3 = some (.int (nI L)) ∧ lc 4 = some (.int (nI i)) ∧ G' = hup G 181 (YA 260 (ovw ob0 0 i (gD l)))) ?_ ?_
  · exact LP 0 _ _ (Nat.zero_le _) ⟨rfl, rfl, rfl, rfl, rfl, by rw [ovw_0, hup_same g181]⟩
  · rintro i lc G' hi ⟨l0, l1, l2, l3, l4, rfl⟩ ih
    have hb := hwb (2880 * e + i)
    refine V_iload rfl (by first | rfl | assumption) ?_
    refine V_iload_n rfl (by first | rfl | assumption) ?_
    refine V_icmp_geN rfl (by omega) (by omega) (fun h => absurd h (by omega)) (fun _ => ?_)
    refine V_aload_n rfl (by first | rfl | assumption) ?_
    refine V_getf rfl rfl rfl (by repeat (first | exact hup_eq | assumption | refine Eq.trans (hup_ne (by first | assumption | exact Ne.symm (by assumption) | decide | omega)) ?_)) (by first | rfl | assumption) ?_
    refine V_iload rfl (by first | rfl | assumption) ?_
    refine V_aload_n rfl (by first | rfl | assumption) ?_
    refine V_getf rfl rfl rfl (by repeat (first | exact hup_eq | assumption | refine Eq.trans (hup_ne (by first | assumption | exact Ne.symm (by assumption) | decide | omega)) ?_)) (by first | rfl | assumption) ?_
    refine V_iload_n rfl (by first | rfl | assumption) ?_
    refine V_iload rfl (by first | rfl | assumption) ?_
    refine V_iaddN rfl ?_
    refine V_baldB rfl (by repeat (first | exact hup_eq | assumption | refine Eq.trans (hup_ne (by first | assumption | exact Ne.symm (by assumption) | decide | omega)) ?_)) rfl (by first | omega | decide) (by first | omega | decide) ?_
    refine V_bastB rfl (by repeat (first | exact hup_eq | assumption | refine Eq.trans (hup_ne (by first | assumption | exact Ne.symm (by assumption) | decide | omega)) ?_)) rfl (by first | omega | decide) (by first | omega | decide) (by first | assumption | solve_by_elim | exact Nat.mod_lt _ (by decide) | omega) ?_
    refine V_iincN (d := 1) rfl (by first | rfl | assumption) (by decide) (by decide) ?_
    refine V_goto rfl ?_
    have e9 := ovw_s' (o := ob0) (g := gD l) (a := 0) (i := i) (x := w (2880 * e + i)) (by rw [show 2880 * e + i = 240 * (12 * e) + i by omega]; exact z3 i hi)
    rw [Nat.zero_add] at e9
    rw [hup_hup, e9]
    exact ih _ _ ⟨l0, l1, l2, l3, rfl, rfl⟩
  rintro lc G' ⟨l0, l1, l2, l3, l4, rfl⟩
  have hlb : ∀ j, j < L → gD l j < 256 := fun j hj => by rw [← z3 j hj]; exact hwb _
  obtain ⟨ob, hob⟩ : ∃ ob, ob = ovw ob0 0 L (gD l) := ⟨_, rfl⟩
  have hobb : ∀ j, ob j < 256 := fun j => by rw [hob]; exact ovw_lt hob0 hlb j
  have hobl : ∀ j, j < L → ob j = gD l j := fun j hj => by rw [hob, ovw_at (Nat.zero_le _) (by omega)]; rfl
  rw [← hob]
  clear hob
  refine V_iload rfl (by first | rfl | assumption) ?_
  refine V_iload_n rfl (by first | rfl | assumption) ?_
  refine V_icmp_geN rfl (by omega) (by omega) (fun _ => ?_) (fun h => absurd (Nat.le_refl _) h)
  have hR1 : RM T S (hup G 181 (YA 260 ob)) := hR.sc (hR.1.op ⟨ob, hup_eq, hobb⟩ (fun j hj => hup_ne (by omega))) (fun j a b => hup_ne (by omega))
  refine V_aload_n rfl (by first | rfl | assumption) ?_
  refine V_iload_n rfl (by first | rfl | assumption) ?_
  refine V_callV (M' := mX12_dropFirst) (mc := 0) (ms := 0) (bc' := 0) (bs' := 0) rfl cw_X12_316 iv_X12_dropFirst (by repeat (first | exact hup_eq | assumption | refine Eq.trans (hup_ne (by first | assumption | exact Ne.symm (by assumption) | decide | omega)) ?_)) rfl rfl (Nat.le_of_ble_eq_true rfl) ⟨Nat.le_of_ble_eq_true rfl, Nat.le_of_ble_eq_true rfl⟩ ⟨Nat.le_of_ble_eq_true rfl, Nat.le_of_ble_eq_true rfl⟩ (As := [.int (nI e)]) (c_mdrop (Q := fun o G2 => o = .inl none ∧ FP (fun j => 176 ≤ j ∧ j ≤ 178) (hup G 181 (YA 260 ob)) G2 ∧ RM T (sE S e (swi (S.1 e) ((wi (S.1 e)).drop 1))) G2) he (by repeat (first | exact hup_eq | assumption | refine Eq.trans (hup_ne (by first | assumption | exact Ne.symm (by assumption) | decide | omega)) ?_)) hR1 hl1 (fun G2 h1 h2 => ⟨rfl, h1, h2⟩)) (fun o G2 h => ?_) (fun E G' h => by cases h.1)
  obtain ⟨h, F2, hR2⟩ := h
  cases h
  have F : FP PU G G2 := (FP.rf.hup (by decide)).trans F2 (fun x hx => by show _ ∨ _; omega)
  have k140 : G2.1 140 = some (MO th ta os hs ps rs) := F2.get (by decide) ((hup_ne (by decide)).trans g140)
  have k181 : G2.1 181 = some (YA 260 ob) := F2.get (by decide) hup_eq
  obtain ⟨S1, hS1⟩ : ∃ S1, S1 = sE S e (swi (S.1 e) ((wi (S.1 e)).drop 1)) := ⟨_, rfl⟩
  have f7 : fl (S1.1 e) 7 = fl (S.1 e) 7 := by rw [hS1, sE_e]; rfl
  have r8 : rw9 (S1.1 e) = rw9 (S.1 e) := by rw [hS1, sE_e]; rfl
  have n1 : nm (S1.1 e) 1 = nm (S.1 e) 1 := by rw [hS1, sE_e]; rfl
  rw [← hS1] at hR2 hq1 hq2
  rw [← f7, ← r8, ← n1] at hq1 hq2
  rw [← n1] at hcame
  clear hS1 f7 r8 n1 hR1 F2
  have k163 := hR2.2.2.2.2.2.2.2.2.1.2.2.2.2.2.2.2
  have k166 := hR2.2.2.2.2.2.2.2.2.2.2.1
  obtain ⟨kf, k160, hkb, hkf⟩ := id hR2.2.2.2.2.1
  obtain ⟨made, hmade⟩ : ∃ made, made = fl (S1.1 e) 7 := ⟨_, rfl⟩
  rw [← hmade] at hq1 hq2
  refine V_aload_n rfl (by first | rfl | assumption) ?_
  refine V_getf rfl rfl rfl (by repeat (first | exact hup_eq | assumption | refine Eq.trans (hup_ne (by first | assumption | exact Ne.symm (by assumption) | decide | omega)) ?_)) (by first | rfl | assumption) ?_
  refine V_iload_n rfl (by first | rfl | assumption) ?_
  refine V_zaldZ rfl (by repeat (first | exact hup_eq | assumption | refine Eq.trans (hup_ne (by first | assumption | exact Ne.symm (by assumption) | decide | omega)) ?_)) rfl (by first | omega | decide) (by first | omega | decide) ?_
  rw [← hmade]
  have short : ∀ lc : kLo, opn T made (rw9 (S1.1 e) 8) (rw9 (S1.1 e) 9) (nm (S1.1 e) 1) l = none → V K 0 0 mX12_unpack 78 lc [] G2 Q := fun lc h => by
    refine V_iconst (v := bI false) rfl (by decide) ?_
    exact V_zret rfl rfl (bI_01 _) (hq1 h G2 rs F k140 hR2)
  cases hm : made with
  | false =>
    rw [hm] at hq1 hq2 short hmade
    refine V_if_eqB rfl (fun _ => ?_) (fun h => Bool.noConfusion h)
    refine V_iload_n rfl (by first | rfl | assumption) ?_
    refine V_istore rfl (by decide) ?_
    refine V_iload rfl (by first | rfl | assumption) ?_
    refine V_bipush (v := nI 6) rfl (by decide) ?_
    refine V_icmp_geN rfl (by omega) (by decide) (fun h6 => ?_) (fun h6 => short _ (by unfold opn; rw [if_neg (by decide)]; exact rdP_short (by omega)))
    refine V_aload_n rfl (by first | rfl | assumption) ?_
    refine V_getf rfl rfl rfl (by repeat (first | exact hup_eq | assumption | refine Eq.trans (hup_ne (by first | assumption | exact Ne.symm (by assumption) | decide | omega)) ?_)) (by first | rfl | assumption) ?_
    refine V_iload_n rfl (by first | rfl | assumption) ?_
    refine V_zaldZ rfl (by repeat (first | exact hup_eq | assumption | refine Eq.trans (hup_ne (by first | assumption | exact Ne.symm (by assumption) | decide | omega)) ?_)) rfl (by first | omega | decide) (by first | omega | decide) ?_
    rw [← hmade]
    refine V_if_eqB rfl (fun _ => ?_) (fun h => Bool.noConfusion h)
    have U : opn T false (rw9 (S1.1 e) 8) (rw9 (S1.1 e) 9) (nm (S1.1 e) 1) l = rdP false l := by unfold opn; rw [if_neg (by decide)]
    rw [U] at hq1 hq2
    refine V_munp2 he k140 hR2.1.2.2.2.2.2.2.1 k181 hobb ⟨_, k163, hmade.symm⟩ hL.symm ⟨h6, z2⟩ hobl l0 l1 rfl (fun h G' rs' h1 h2 h3 => ?_) (fun p h G' h1 h2 h3 => ?_)
    · exact hq1 h G' rs' (F.trans h1 (fun x hx => by show _ ∨ _; omega)) h2 (hR2.sc (hR2.1.rd h3 (fun j hj => h1.2 j (by omega))) (fun j a b => h1.2 j (by omega)))
    · have hy : yM 180 240 G' := by obtain ⟨b9, q1, q2, _⟩ := h3; exact ⟨b9, q1, q2⟩
      exact hq2 p h G' (F.trans h1 (fun x hx => by show _ ∨ _; omega)) h2 (hR2.sc (hR2.1.rd hy (fun j hj => h1.2 j (by omega))) (fun j a b => h1.2 j (by omega))) h3
  | true =>
    rw [hm] at hq1 hq2 short hmade
    refine V_if_eqB rfl (fun h => Bool.noConfusion h) (fun _ => ?_)
    by_cases h16 : 16 ≤ L
    rotate_left
    · refine V_iload_n rfl (by assumption) ?_
      refine V_bipush (v := nI 16) rfl (by decide) ?_
      refine V_isub rfl ?_
      refine V_goto rfl ?_
      refine V_istore rfl (by decide) ?_
      refine V_iload rfl (by rfl) ?_
      refine V_bipush (v := 6) rfl (by decide) ?_
      refine V_icmp_geZ (a := (L : Int) - 16) (b := 6) rfl ?_ (by decide) (fun h => absurd h (by omega)) (fun _ => short _ (opn_s (by omega)))
      rw [Int32.toInt_sub, nI_toInt (by omega), nI_toInt (by decide)]
      exact Int.bmod_eq_of_le (by omega) (by omega)
    obtain ⟨n, hn⟩ : ∃ n, n = L - 16 := ⟨_, rfl⟩
    refine V_iload_n rfl (by first | rfl | assumption) ?_
    refine V_bipush (v := nI 16) rfl (by decide) ?_
    refine V_isubN rfl (by first | omega | decide) ?_
    refine V_goto rfl ?_
    refine V_istore rfl (by decide) ?_
    refine V_iload rfl (by first | rfl | assumption) ?_
    refine V_bipush (v := nI 6) rfl (by decide) ?_
    rw [← hn]
    refine V_icmp_geN rfl (by omega) (by decide) (fun h6 => ?_) (fun h6 => short _ (opn_s (by omega)))
    clear short
    obtain ⟨nn, hnn⟩ : ∃ nn, nn = nm (S1.1 e) 1 := ⟨_, rfl⟩
    rw [← hnn] at hq1 hq2 hcame
    have hkh : ∀ j, j < 32 → sft kf (128 * e + 64) j = rw9 (S1.1 e) 8 j := fun j hj => (hkf e he j hj).2.2.1
    have hkbo : ∀ j, j < 32 → sft kf (128 * e + 96) j = rw9 (S1.1 e) 9 j := fun j hj => (hkf e he j hj).2.2.2
    obtain ⟨l1', hl1'⟩ : ∃ l1', l1' = l.take n := ⟨_, rfl⟩
    have hl1l : l1'.length = n := by rw [hl1', List.length_take]; omega
    have hl1g : ∀ j, j < n → gD l1' j = ob j := fun j hj => by
      rw [hobl j (by omega), hl1']
      unfold gD
      simp [List.getD, List.getElem?_take, hj]
    refine V_aload_n rfl (by first | rfl | assumption) ?_
    refine V_getf rfl rfl rfl (by repeat (first | exact hup_eq | assumption | refine Eq.trans (hup_ne (by first | assumption | exact Ne.symm (by assumption) | decide | omega)) ?_)) (by first | rfl | assumption) ?_
    refine V_iload_n rfl (by first | rfl | assumption) ?_
    refine V_zaldZ rfl (by repeat (first | exact hup_eq | assumption | refine Eq.trans (hup_ne (by first | assumption | exact Ne.symm (by assumption) | decide | omega)) ?_)) rfl (by first | omega | decide) (by first | omega | decide) ?_
    rw [← hmade]
    refine V_if_eqB rfl (fun h => Bool.noConfusion h) (fun _ => ?_)
    refine V_aload_n rfl (by first | rfl | assumption) ?_
    refine V_aload_n rfl (by first | rfl | assumption) ?_
    refine V_getf rfl rfl rfl (by repeat (first | exact hup_eq | assumption | refine Eq.trans (hup_ne (by first | assumption | exact Ne.symm (by assumption) | decide | omega)) ?_)) (by first | rfl | assumption) ?_
    refine V_iconst (v := nI 0) rfl (by decide) ?_
    refine V_iload rfl (by first | rfl | assumption) ?_
    refine V_sipush (v := nI 128) rfl (by decide) ?_
    refine V_iload_n rfl (by first | rfl | assumption) ?_
    refine V_imulN rfl ?_
    refine V_bipush (v := nI 96) rfl (by decide) ?_
    refine V_iaddN rfl ?_
    refine V_aload_n rfl (by first | rfl | assumption) ?_
    refine V_getf rfl rfl rfl (by repeat (first | exact hup_eq | assumption | refine Eq.trans (hup_ne (by first | assumption | exact Ne.symm (by assumption) | decide | omega)) ?_)) (by first | rfl | assumption) ?_
    refine V_iload_n rfl (by first | rfl | assumption) ?_
    refine V_ialdN rfl (by repeat (first | exact hup_eq | assumption | refine Eq.trans (hup_ne (by first | assumption | exact Ne.symm (by assumption) | decide | omega)) ?_)) rfl (by first | omega | decide) (by first | omega | decide) ?_
    rw [← hnn]
    refine V_i2lN rfl (by omega) ?_
    refine V_callV (M' := mX12_sealPacket) (mc := 0) (ms := 0) (bc' := 0) (bs' := 0) rfl cw_X12_303 iv_X12_sealPacket (by repeat (first | exact hup_eq | assumption | refine Eq.trans (hup_ne (by first | assumption | exact Ne.symm (by assumption) | decide | omega)) ?_)) rfl rfl (Nat.le_of_ble_eq_true rfl) ⟨Nat.le_of_ble_eq_true rfl, Nat.le_of_ble_eq_true rfl⟩ ⟨Nat.le_of_ble_eq_true rfl, Nat.le_of_ble_eq_true rfl⟩ (As := [.ref 181, .int (nI 0), .int (nI n), .int (nI (128 * e + 96)), .long (lN nn)]) (c_msealP (qt := T.2.2) (Q := fun o G6 => o = .inl none ∧ ∃ t, FP (fun j => PS j ∨ PT j) G2 G6 ∧ sM G6 ∧ tM G6 ∧ G6.1 156 = some (YA 16 t) ∧ (∀ j, t j < 256) ∧ ∀ j, j < 16 → t j = TAG (sft ob 0) n (STRM T.2.2 (sft kf (128 * e + 96)) nn 0) j) hqt k140 hR2.1.2.2.2.1 hR2.1.2.2.2.2.1 k160 hkb (by omega) k181 (Or.inr rfl) (by omega) (by decide) hobb (by omega) (fun G6 t h1 h2 h3 h4 h5 h6 => ⟨rfl, t, h1, h2, h3, h4, h5, h6⟩)) (fun o G3 h => ?_) (fun E G' h => by cases h.1)
    obtain ⟨h, t, F3, sm3, tm3, j156, ht1, ht2⟩ := h
    cases h
    have j140 := F3.get (by decide) k140
    have j181 := F3.get (by decide) k181
    have j160 := F3.get (by decide) k160
    have j166 := F3.get (by decide) k166
    have hR3 : RM T S1 G3 := hR2.sc (hR2.1.st sm3 tm3 (fun j hj => F3.2 j (by omega))) (fun j a b => F3.2 j (by omega))
    have F3' : FP PU G G3 := F.trans F3 (fun x hx => by show _ ∨ _; omega)
    have htg : ∀ j, j < 16 → t j = gD (tgL T (rw9 (S1.1 e) 9) nn l1') j := fun j hj => by
      unfold tgL
      rw [gD_lst hj, ht2 j hj, hl1l]
      exact TAG_congr (fun j hj => by rw [hl1g j hj]; unfold sft; rw [Nat.zero_add]) (fun j hj => STRM_congr hkbo) j
    have hdl : ∀ j, j < 16 → gD (l.drop (l.length - 16)) j = ob (n + j) := fun j hj => by
      rw [hobl _ (by omega)]
      unfold gD
      simp only [List.getD, List.getElem?_drop]
      rw [← hL, hn]
    have hdll : (l.drop (l.length - 16)).length = 16 := by rw [List.length_drop]; omega
    have htll : (tgL T (rw9 (S1.1 e) 9) nn l1').length = 16 := by unfold tgL; rw [lst_len]
    have U : opn T true (rw9 (S1.1 e) 8) (rw9 (S1.1 e) 9) nn l = if l.drop (l.length - 16) = tgL T (rw9 (S1.1 e) 9) nn l1' then rdP true (hid T (rw9 (S1.1 e) 8) (rw9 (S1.1 e) 9) nn l1') else none := by
      unfold opn
      rw [if_pos rfl, if_neg (by omega), hl1', hn, hL]
    rw [U] at hq1 hq2
    clear U
    refine V_iconst (v := nI 0) rfl (by decide) ?_
    refine V_istore rfl (by decide) ?_
    refine V_loop 16 (fun i lc2 G7 => lc2 0 = some (.ref 140) ∧ lc2 1 = some (.int (nI e)) ∧ lc2 4 = some (.int (nI n)) ∧ lc2 5 = some (.int (nI i)) ∧ (∀ j, j < i → t j = ob (n + j)) ∧ G7 = G3) ?_ ?_ 0 _ _ (Nat.zero_le _) ⟨l0, l1, rfl, rfl, fun j hj => absurd hj (Nat.not_lt_zero j), rfl⟩
    · rintro i lc2 G7 hi ⟨l0, l1, l4, l5, hsame, rfl⟩ ih
      have hb1 := ht1 i
      have hb2 := hobb (n + i)
      refine V_iload rfl (by first | rfl | assumption) ?_
      refine V_bipush (v := nI 16) rfl (by decide) ?_
      refine V_icmp_geN rfl (by omega) (by decide) (fun h => absurd h (by omega)) (fun _ => ?_)
      refine V_aload_n rfl (by first | rfl | assumption) ?_
      refine V_getf rfl rfl rfl (by repeat (first | exact hup_eq | assumption | refine Eq.trans (hup_ne (by first | assumption | exact Ne.symm (by assumption) | decide | omega)) ?_)) (by first | rfl | assumption) ?_
      refine V_iload rfl (by first | rfl | assumption) ?_
      refine V_baldB rfl (by repeat (first | exact hup_eq | assumption | refine Eq.trans (hup_ne (by first | assumption | exact Ne.symm (by assumption) | decide | omega)) ?_)) rfl (by first | omega | decide) (by first | omega | decide) ?_
      refine V_aload_n rfl (by first | rfl | assumption) ?_
      refine V_getf rfl rfl rfl (by repeat (first | exact hup_eq | assumption | refine Eq.trans (hup_ne (by first | assumption | exact Ne.symm (by assumption) | decide | omega)) ?_)) (by first | rfl | assumption) ?_
      refine V_iload rfl (by first | rfl | assumption) ?_
      refine V_iload rfl (by first | rfl | assumption) ?_
      refine V_iaddN rfl ?_
      refine V_baldB rfl (by repeat (first | exact hup_eq | assumption | refine Eq.trans (hup_ne (by first | assumption | exact Ne.symm (by assumption) | decide | omega)) ?_)) rfl (by first | omega | decide) (by first | omega | decide) ?_
      refine V_icmp_eq rfl (fun q => ?_) (fun q => ?_)
      · have q := (bB_inj hb1 hb2).mp q
        refine V_iincN (d := 1) rfl (by first | rfl | assumption) (by decide) (by decide) ?_
        refine V_goto rfl ?_
        refine ih _ _ ⟨l0, l1, l4, rfl, fun j hj => ?_, rfl⟩
        by_cases x : j = i
        · rw [x]; exact q
        · exact hsame j (by omega)
      · refine V_iconst (v := bI false) rfl (by decide) ?_
        refine V_zret rfl rfl (bI_01 _) (hq1 ?_ G7 rs F3' j140 hR3)
        rw [if_neg (fun q2 => q ((bB_inj hb1 hb2).mpr ?_))]
        rw [htg i hi, ← q2, hdl i hi]
    rintro lc2 G7 ⟨l0, l1, l4, l5, hsame, rfl⟩
    have heq : l.drop (l.length - 16) = tgL T (rw9 (S1.1 e) 9) nn l1' := by
      rw [← lst_gD (l.drop (l.length - 16)), ← lst_gD (tgL T (rw9 (S1.1 e) 9) nn l1'), hdll, htll]
      exact lst_congr (fun j hj => by rw [hdl j hj, ← htg j hj, hsame j hj])
    rw [if_pos heq] at hq1 hq2
    refine V_iload rfl (by first | rfl | assumption) ?_
    refine V_bipush (v := nI 16) rfl (by decide) ?_
    refine V_icmp_geN rfl (by decide) (by decide) (fun _ => ?_) (fun h => absurd (Nat.le_refl _) h)
    refine V_aload_n rfl (by first | rfl | assumption) ?_
    refine V_aload_n rfl (by first | rfl | assumption) ?_
    refine V_getf rfl rfl rfl (by repeat (first | exact hup_eq | assumption | refine Eq.trans (hup_ne (by first | assumption | exact Ne.symm (by assumption) | decide | omega)) ?_)) (by first | rfl | assumption) ?_
    refine V_iconst (v := nI 0) rfl (by decide) ?_
    refine V_iconst (v := nI 4) rfl (by decide) ?_
    refine V_sipush (v := nI 128) rfl (by decide) ?_
    refine V_iload_n rfl (by first | rfl | assumption) ?_
    refine V_imulN rfl ?_
    refine V_bipush (v := nI 64) rfl (by decide) ?_
    refine V_iaddN rfl ?_
    refine V_aload_n rfl (by first | rfl | assumption) ?_
    refine V_getf rfl rfl rfl (by repeat (first | exact hup_eq | assumption | refine Eq.trans (hup_ne (by first | assumption | exact Ne.symm (by assumption) | decide | omega)) ?_)) (by first | rfl | assumption) ?_
    refine V_iload_n rfl (by first | rfl | assumption) ?_
    refine V_ialdN rfl (by repeat (first | exact hup_eq | assumption | refine Eq.trans (hup_ne (by first | assumption | exact Ne.symm (by assumption) | decide | omega)) ?_)) rfl (by first | omega | decide) (by first | omega | decide) ?_
    rw [← hnn]
    refine V_i2lN rfl (by omega) ?_
    refine V_iconst (v := nI 0) rfl (by decide) ?_
    refine V_callV (M' := mX12_hide) (mc := 0) (ms := 0) (bc' := 0) (bs' := 0) rfl cw_X12_299 iv_X12_hide (by repeat (first | exact hup_eq | assumption | refine Eq.trans (hup_ne (by first | assumption | exact Ne.symm (by assumption) | decide | omega)) ?_)) rfl rfl (Nat.le_of_ble_eq_true rfl) ⟨Nat.le_of_ble_eq_true rfl, Nat.le_of_ble_eq_true rfl⟩ ⟨Nat.le_of_ble_eq_true rfl, Nat.le_of_ble_eq_true rfl⟩ (As := [.ref 181, .int (nI 0), .int (nI 4), .int (nI (128 * e + 64)), .long (lN nn), .int (nI 0)]) (c_mhide (qt := T.2.2) (Q := fun o G4 => o = .inl none ∧ FP (fun j => PS j ∨ j = 181) G7 G4 ∧ sM G4 ∧ G4.1 181 = some (YA 260 (ovw ob 0 4 (fun j => ob (0 + j) ^^^ STRM T.2.2 (sft kf (128 * e + 64)) nn (0 + j / 64) (j % 64))))) hqt j140 hR3.1.2.2.2.1 j160 hkb (by omega) j181 (Or.inr rfl) (by omega) (by decide) hobb (by omega) (by decide) (fun G4 h1 h2 h3 => ⟨rfl, h1, h2, h3⟩)) (fun o G4 h => ?_) (fun E G' h => by cases h.1)
    obtain ⟨h, F4, sm4, m181⟩ := h
    cases h
    obtain ⟨w2, hw2⟩ : ∃ w2, w2 = ovw ob 0 4 (fun j => ob (0 + j) ^^^ STRM T.2.2 (sft kf (128 * e + 64)) nn (0 + j / 64) (j % 64)) := ⟨_, rfl⟩
    rw [← hw2] at m181
    have hw2b : ∀ j, w2 j < 256 := fun j => by rw [hw2]; exact ovw_lt hobb (fun j _ => xor_b (hobb _) (STRM_lt _ _ _ _ _)) j
    have m140 := F4.get (by decide) j140
    have m160 := F4.get (by decide) j160
    have m166 := F4.get (by decide) j166
    refine V_aload_n rfl (by first | rfl | assumption) ?_
    refine V_aload_n rfl (by first | rfl | assumption) ?_
    refine V_getf rfl rfl rfl (by repeat (first | exact hup_eq | assumption | refine Eq.trans (hup_ne (by first | assumption | exact Ne.symm (by assumption) | decide | omega)) ?_)) (by first | rfl | assumption) ?_
    refine V_iconst (v := nI 4) rfl (by decide) ?_
    refine V_iload rfl (by first | rfl | assumption) ?_
    refine V_iconst (v := nI 4) rfl (by decide) ?_
    refine V_isubN rfl (by first | omega | decide) ?_
    refine V_sipush (v := nI 128) rfl (by decide) ?_
    refine V_iload_n rfl (by first | rfl | assumption) ?_
    refine V_imulN rfl ?_
    refine V_bipush (v := nI 96) rfl (by decide) ?_
    refine V_iaddN rfl ?_
    refine V_aload_n rfl (by first | rfl | assumption) ?_
    refine V_getf rfl rfl rfl (by repeat (first | exact hup_eq | assumption | refine Eq.trans (hup_ne (by first | assumption | exact Ne.symm (by assumption) | decide | omega)) ?_)) (by first | rfl | assumption) ?_
    refine V_iload_n rfl (by first | rfl | assumption) ?_
    refine V_ialdN rfl (by repeat (first | exact hup_eq | assumption | refine Eq.trans (hup_ne (by first | assumption | exact Ne.symm (by assumption) | decide | omega)) ?_)) rfl (by first | omega | decide) (by first | omega | decide) ?_
    rw [← hnn]
    refine V_i2lN rfl (by omega) ?_
    refine V_iconst (v := nI 1) rfl (by decide) ?_
    refine V_callV (M' := mX12_hide) (mc := 0) (ms := 0) (bc' := 0) (bs' := 0) rfl cw_X12_299 iv_X12_hide (by repeat (first | exact hup_eq | assumption | refine Eq.trans (hup_ne (by first | assumption | exact Ne.symm (by assumption) | decide | omega)) ?_)) rfl rfl (Nat.le_of_ble_eq_true rfl) ⟨Nat.le_of_ble_eq_true rfl, Nat.le_of_ble_eq_true rfl⟩ ⟨Nat.le_of_ble_eq_true rfl, Nat.le_of_ble_eq_true rfl⟩ (As := [.ref 181, .int (nI 4), .int (nI (n - 4)), .int (nI (128 * e + 96)), .long (lN nn), .int (nI 1)]) (c_mhide (qt := T.2.2) (Q := fun o G5 => o = .inl none ∧ FP (fun j => PS j ∨ j = 181) G4 G5 ∧ sM G5 ∧ G5.1 181 = some (YA 260 (ovw w2 4 (n - 4) (fun j => w2 (4 + j) ^^^ STRM T.2.2 (sft kf (128 * e + 96)) nn (1 + j / 64) (j % 64))))) hqt m140 sm4 m160 hkb (by omega) m181 (Or.inr rfl) (by omega) (by decide) hw2b (by omega) (by decide) (fun G4 h1 h2 h3 => ⟨rfl, h1, h2, h3⟩)) (fun o G5 h => ?_) (fun E G' h => by cases h.1)
    obtain ⟨h, F5, sm5, q181⟩ := h
    cases h
    obtain ⟨w3, hw3⟩ : ∃ w3, w3 = ovw w2 4 (n - 4) (fun j => w2 (4 + j) ^^^ STRM T.2.2 (sft kf (128 * e + 96)) nn (1 + j / 64) (j % 64)) := ⟨_, rfl⟩
    rw [← hw3] at q181
    have hw3b : ∀ j, w3 j < 256 := fun j => by rw [hw3]; exact ovw_lt hw2b (fun j _ => xor_b (hw2b _) (STRM_lt _ _ _ _ _)) j
    obtain ⟨hd, hhd⟩ : ∃ hd, hd = hid T (rw9 (S1.1 e) 8) (rw9 (S1.1 e) 9) nn l1' := ⟨_, rfl⟩
    have hhl : hd.length = n := by rw [hhd]; unfold hid; rw [lst_len, hl1l]
    have hw3i : ∀ j, j < n → w3 j = gD hd j := fun j hj => by
      rw [hhd]
      unfold hid
      rw [hl1l, gD_lst hj, hl1g j hj]
      by_cases z4 : j < 4
      · rw [hw3, ovw_out (by omega), hw2, ovw_at (Nat.zero_le _) (by omega)]
        unfold ksm
        rw [if_pos z4, Nat.sub_zero, Nat.zero_add, show 0 + j / 64 = 0 by omega, show j % 64 = j by omega, STRM_congr (k' := rw9 (S1.1 e) 8) hkh]
      · rw [hw3, ovw_at (by omega) (by omega), hw2, ovw_out (by omega), show 4 + (j - 4) = j by omega]
        unfold ksm
        rw [if_neg z4, STRM_congr (k' := rw9 (S1.1 e) 9) hkbo]
    rw [← hhd] at hq1 hq2
    have q140 := F5.get (by decide) m140
    have FF : FP (fun j => (150 ≤ j ∧ j ≤ 152) ∨ j = 181) G7 G5 := (F4.sub (fun x hx => by omega)).trans F5 (fun x hx => by omega)
    have hy5 : yM 181 260 G5 := ⟨w3, q181, hw3b⟩
    have hR5 : RM T S1 G5 := by
      have sc5 : scM T G5 := by
        obtain ⟨⟨D, a⟩, ⟨⟨b1, b2, b3⟩, ⟨b4, b5, b6⟩, ⟨b7, b8⟩, ⟨b9, b10⟩, b11, b12⟩, c, d, f, g, i, k⟩ := hR3.1
        exact ⟨⟨D, a.fp (fun j _ _ => FF.2 j (by omega))⟩, ⟨⟨b1, (FF.2 _ (by omega)).trans b2, b3⟩, ⟨b4, (FF.2 _ (by omega)).trans b5, b6⟩, ⟨b7, (FF.2 _ (by omega)).trans b8⟩, ⟨b9, (FF.2 _ (by omega)).trans b10⟩, sm5.2.1⟩, c.fp (FF.2 _ (by omega)), sm5, f.fp (fun j _ _ => FF.2 j (by omega)), g.fp (FF.2 _ (by omega)), i.fp (FF.2 _ (by omega)), hy5⟩
      exact hR3.sc sc5 (fun j a b => FF.2 j (by omega))
    have F5' : FP PU G G5 := F3'.trans FF (fun x hx => by show _ ∨ _; omega)
    have q163 := hR5.2.2.2.2.2.2.2.2.1.2.2.2.2.2.2.2
    refine V_munp2 he q140 hR5.1.2.2.2.2.2.2.1 q181 hw3b ⟨_, q163, hmade.symm⟩ hhl ⟨h6, by omega⟩ hw3i l0 l1 l4 (fun h G' rs' h1 h2 h3 => ?_) (fun p h G' h1 h2 h3 => ?_)
    · exact hq1 h G' rs' (F5'.trans h1 (fun x hx => by show _ ∨ _; omega)) h2 (hR5.sc (hR5.1.rd h3 (fun j hj => h1.2 j (by omega))) (fun j a b => h1.2 j (by omega)))
    · have hy : yM 180 240 G' := by obtain ⟨b9, q1, q2, _⟩ := h3; exact ⟨b9, q1, q2⟩
      exact hq2 p h G' (F5'.trans h1 (fun x hx => by show _ ∨ _; omega)) h2 (hR5.sc (hR5.1.rd hy (fun j hj => h1.2 j (by omega))) (fun j a b => h1.2 j (by omega))) h3
end MUnp2
