section MPost2
variable {K : kK} {G : kG} {Q : kO → kG → Prop} {T : TB} {S : SG} {th ta os hs ps rs : Int32}
abbrev PW (j : Nat) : Prop := (150 ≤ j ∧ j ≤ 156) ∨ j = 164 ∨ j = 165 ∨ (176 ≤ j ∧ j ≤ 178)
theorem scM.st {G' : kG} (h : scM T G) (h1 : sM G') (h2 : tM G') (e : ∀ j, (143 ≤ j ∧ j ≤ 149) ∨ (179 ≤ j ∧ j ≤ 181) → G'.1 j = G.1 j) : scM T G' := by
  obtain ⟨⟨D, a⟩, ⟨⟨b1, b2, b3⟩, ⟨b4, b5, b6⟩, ⟨b7, b8⟩, ⟨b9, b10⟩, b11, b12⟩, c, d, f, g, i, k⟩ := h
  exact ⟨⟨D, a.fp (fun j _ _ => e j (by omega))⟩, ⟨⟨b1, (e _ (by omega)).trans b2, b3⟩, ⟨b4, (e _ (by omega)).trans b5, b6⟩, ⟨b7, (e _ (by omega)).trans b8⟩, ⟨b9, (e _ (by omega)).trans b10⟩, h1.2.1⟩, c.fp (e _ (by omega)), h1, h2, g.fp (e _ (by omega)), i.fp (e _ (by omega)), k.fp (e _ (by omega))⟩
theorem ksm_congr {h h' b b' : Nat → Nat} {n i : Nat} (hh : ∀ j, j < 32 → h j = h' j) (hb : ∀ j, j < 32 → b j = b' j) : ksm T h b n i = ksm T h' b' n i := by
  unfold ksm
  split
  · exact STRM_congr hh
  · exact STRM_congr hb
set_option maxHeartbeats 8000000 in
theorem c_mpost {e : Nat} {p : List Nat} (he : e < 2) (hqt : qtO T.2.2) (g140 : G.1 140 = some (MO th ta os hs (nI p.length) rs)) (hR : RM T S G) (hp : plM p G) (hp2 : p.length ≤ 200) (hsent : nm (S.1 e) 0 < 2 ^ 31)
    (hq : ∀ G', FP PW G G' → RM T (emt T S e p) G' → Q (.inl none) G') : C K 0 0 mX12_post [.ref 140, .int (nI e)] G Q := by
  obtain ⟨pb, g179, hpb, hpl⟩ := id hp
  obtain ⟨f0, f1, f2, f3, f4, f5, f6, f7⟩ := id hR.2.2.2.2.2.2.2.2.1
  obtain ⟨n0, n1, n2, n3⟩ := id hR.2.2.2.2.2.2.2.2.2
  obtain ⟨w176, z, w, g177, g178, hwb, hz⟩ := id hR.2.2.2.2.2.2.2.1
  obtain ⟨kf, g160, hkb, hkf⟩ := id hR.2.2.2.2.1
  refine C_of okX12_post (Nat.le_of_ble_eq_true rfl) ?_
  refine V_aload_n rfl (by first | rfl | assumption) ?_
  refine V_getf rfl rfl rfl (by repeat (first | exact hup_eq | assumption | refine Eq.trans (hup_ne (by first | assumption | exact Ne.symm (by assumption) | decide | omega)) ?_)) (by first | rfl | assumption) ?_
  refine V_iload_n rfl (by first | rfl | assumption) ?_
  refine V_zaldZ rfl (by repeat (first | exact hup_eq | assumption | refine Eq.trans (hup_ne (by first | assumption | exact Ne.symm (by assumption) | decide | omega)) ?_)) rfl (by first | omega | decide) (by first | omega | decide) ?_
  refine V_if_eqB rfl (fun hf => ?_) (fun hf => ?_)
  rotate_left
  · have U : emt T S e p = S := by
      unfold emt
      rw [if_pos (by cases h : fl (S.1 e) 0; rfl; rw [h] at hf; cases hf)]
    rw [U] at hq
    exact V_vret rfl rfl (hq _ FP.rf hR)
  have hfl : fl (S.1 e) 0 = true := by cases h : fl (S.1 e) 0; rw [h] at hf; cases hf; rfl
  obtain ⟨L, hL⟩ : ∃ L, L = (wi (S.1 (1 - e))).length := ⟨_, rfl⟩
  have hL12 : L ≤ 12 := by rw [hL]; exact (hz (1 - e) (by omega)).1
  refine V_iconst (v := nI 1) rfl (by decide) ?_
  refine V_iload_n rfl (by first | rfl | assumption) ?_
  refine V_isubN rfl (by first | omega | decide) ?_
  refine V_istore_n rfl (by decide) ?_
  refine V_aload_n rfl (by first | rfl | assumption) ?_
  refine V_getf rfl rfl rfl (by repeat (first | exact hup_eq | assumption | refine Eq.trans (hup_ne (by first | assumption | exact Ne.symm (by assumption) | decide | omega)) ?_)) (by first | rfl | assumption) ?_
  refine V_iload_n rfl (by first | rfl | assumption) ?_
  refine V_ialdN rfl (by repeat (first | exact hup_eq | assumption | refine Eq.trans (hup_ne (by first | assumption | exact Ne.symm (by assumption) | decide | omega)) ?_)) rfl (by first | omega | decide) (by first | omega | decide) ?_
  rw [← hL]
  refine V_bipush (v := nI 12) rfl (by decide) ?_
  refine V_icmp_neN rfl (by omega) (by decide) (fun h12 => ?_) (fun h12 => ?_)
  rotate_left
  · have U : emt T S e p = sE S e (sfl (S.1 e) 0 false) := by
      unfold emt
      rw [if_neg (by rw [hfl]; decide), if_pos (by rw [← hL]; exact h12)]
    rw [U] at hq
    refine V_aload_n rfl (by first | rfl | assumption) ?_
    refine V_getf rfl rfl rfl (by repeat (first | exact hup_eq | assumption | refine Eq.trans (hup_ne (by first | assumption | exact Ne.symm (by assumption) | decide | omega)) ?_)) (by first | rfl | assumption) ?_
    refine V_iload_n rfl (by first | rfl | assumption) ?_
    refine V_iconst (v := nI 1) rfl (by decide) ?_
    refine V_zastZ true rfl (by repeat (first | exact hup_eq | assumption | refine Eq.trans (hup_ne (by first | assumption | exact Ne.symm (by assumption) | decide | omega)) ?_)) (by decide) rfl (by first | omega | decide) (by first | omega | decide) ?_
    exact V_vret rfl rfl (hq _ (FP.rf.hup (by decide)) hR.f0)
  have U : emt T S e p = sE (sE S (1 - e) (swi (S.1 (1 - e)) (wi (S.1 (1 - e)) ++ [pkt T (fl (S.1 e) 6) (rw9 (S.1 e) 6) (rw9 (S.1 e) 7) (nm (S.1 e) 0) p]))) e (snm (S.1 e) 0 (nm (S.1 e) 0 + 1)) := by
    unfold emt
    rw [if_neg (by rw [hfl]; decide), if_neg (by rw [← hL]; exact h12)]
  rw [U] at hq
  obtain ⟨pk, hpk⟩ : ∃ pk, pk = pkt T (fl (S.1 e) 6) (rw9 (S.1 e) 6) (rw9 (S.1 e) 7) (nm (S.1 e) 0) p := ⟨_, rfl⟩
  rw [← hpk] at hq
  obtain ⟨A, hA⟩ : ∃ A, A = 240 * (12 * (1 - e) + L) := ⟨_, rfl⟩
  have hA2 : A + 240 ≤ 5760 := by omega
  have fin : ∀ (lc : kLo) (G2 : kG) (w' : Nat → Nat), lc 0 = some (.ref 140) → lc 1 = some (.int (nI e)) → lc 2 = some (.int (nI (1 - e))) → lc 5 = some (.int (nI pk.length)) → FP (fun j => (150 ≤ j ∧ j ≤ 156) ∨ j = 178) G G2 → scM T G2 → G2.1 178 = some (YA 5760 w') → (∀ j, w' j < 256) → (∀ j, j < A ∨ A + 228 ≤ j → w' j = w j) → pk.length ≤ 228 → lst (fun j => w' (A + j)) pk.length = pk → V K 0 0 mX12_post 290 lc [] G2 Q := by
    intro lc G2 w' l0 l1 l2 l5 F sc k178 hb' hout hle hin
    have k140 := F.get (by omega) g140
    have k176 := F.get (by omega) w176
    have k177 := F.get (by omega) g177
    have k165 := F.get (by omega) n0
    refine V_aload_n rfl (by first | rfl | assumption) ?_
    refine V_getf rfl rfl rfl (by repeat (first | exact hup_eq | assumption | refine Eq.trans (hup_ne (by first | assumption | exact Ne.symm (by assumption) | decide | omega)) ?_)) (by first | rfl | assumption) ?_
    refine V_bipush (v := nI 12) rfl (by decide) ?_
    refine V_iload_n rfl (by first | rfl | assumption) ?_
    refine V_imulN rfl ?_
    refine V_aload_n rfl (by first | rfl | assumption) ?_
    refine V_getf rfl rfl rfl (by repeat (first | exact hup_eq | assumption | refine Eq.trans (hup_ne (by first | assumption | exact Ne.symm (by assumption) | decide | omega)) ?_)) (by first | rfl | assumption) ?_
    refine V_iload_n rfl (by first | rfl | assumption) ?_
    refine V_ialdN rfl (by repeat (first | exact hup_eq | assumption | refine Eq.trans (hup_ne (by first | assumption | exact Ne.symm (by assumption) | decide | omega)) ?_)) rfl (by first | omega | decide) (by first | omega | decide) ?_
    refine V_iaddN rfl ?_
    rw [← hL]
    refine V_iload rfl (by first | rfl | assumption) ?_
    refine V_iastN rfl (by repeat (first | exact hup_eq | assumption | refine Eq.trans (hup_ne (by first | assumption | exact Ne.symm (by assumption) | decide | omega)) ?_)) rfl (by first | omega | decide) (by first | omega | decide) ?_
    refine V_aload_n rfl (by first | rfl | assumption) ?_
    refine V_getf rfl rfl rfl (by repeat (first | exact hup_eq | assumption | refine Eq.trans (hup_ne (by first | assumption | exact Ne.symm (by assumption) | decide | omega)) ?_)) (by first | rfl | assumption) ?_
    refine V_iload_n rfl (by first | rfl | assumption) ?_
    refine V_dup2 rfl rfl rfl ?_
    refine V_ialdN rfl (by repeat (first | exact hup_eq | assumption | refine Eq.trans (hup_ne (by first | assumption | exact Ne.symm (by assumption) | decide | omega)) ?_)) rfl (by first | omega | decide) (by first | omega | decide) ?_
    rw [← hL]
    refine V_iconst (v := nI 1) rfl (by decide) ?_
    refine V_iaddN rfl ?_
    refine V_iastN rfl (by repeat (first | exact hup_eq | assumption | refine Eq.trans (hup_ne (by first | assumption | exact Ne.symm (by assumption) | decide | omega)) ?_)) rfl (by first | omega | decide) (by first | omega | decide) ?_
    refine V_aload_n rfl (by first | rfl | assumption) ?_
    refine V_getf rfl rfl rfl (by repeat (first | exact hup_eq | assumption | refine Eq.trans (hup_ne (by first | assumption | exact Ne.symm (by assumption) | decide | omega)) ?_)) (by first | rfl | assumption) ?_
    refine V_iload_n rfl (by first | rfl | assumption) ?_
    refine V_dup2 rfl rfl rfl ?_
    refine V_ialdN rfl (by repeat (first | exact hup_eq | assumption | refine Eq.trans (hup_ne (by first | assumption | exact Ne.symm (by assumption) | decide | omega)) ?_)) rfl (by first | omega | decide) (by first | omega | decide) ?_
    refine V_iconst (v := nI 1) rfl (by decide) ?_
    refine V_iaddN rfl ?_
    refine V_iastN rfl (by repeat (first | exact hup_eq | assumption | refine Eq.trans (hup_ne (by first | assumption | exact Ne.symm (by assumption) | decide | omega)) ?_)) rfl (by first | omega | decide) (by first | omega | decide) ?_
    refine V_vret rfl rfl (hq _ ?_ ?_)
    · exact (((F.sub (fun x hx => by unfold PW; omega)).hup (by unfold PW; omega)).hup (by unfold PW; omega)).hup (by unfold PW; omega)
    · have hw := rWi.post (S := S) (o := 1 - e) (pk := pk) (G' := hup (hup (hup G2 177 (BA 24 (updN z (12 * (1 - e) + L) pk.length))) 176 (BA 2 (updN (fun j => (wi (S.1 j)).length) (1 - e) (L + 1)))) 165 (BA 2 (updN (fun j => nm (S.1 j) 0) e (nm (S.1 e) 0 + 1)))) (z := z) (w := w) (w' := w') (by omega) (by omega) hle hz (by rw [← hL]; repeat (first | exact hup_eq | assumption | refine Eq.trans (hup_ne (by first | assumption | decide | omega)) ?_)) (by rw [← hL]; repeat (first | exact hup_eq | assumption | refine Eq.trans (hup_ne (by first | assumption | decide | omega)) ?_)) (by repeat (first | exact hup_eq | assumption | refine Eq.trans (hup_ne (by first | assumption | decide | omega)) ?_)) hb' (by rw [← hL, ← hA]; exact hout) (by rw [← hL, ← hA]; exact fun j hj => (gD_of (f := fun j => w' (A + j)) hin hj).symm)
      obtain ⟨h1, h2, h3, h4, h5, h6, h7, h8, ⟨a0, a1, a2, a3, a4, a5, a6, a7⟩, m0, m1, m2, m3⟩ := hR
      have eS : ∀ j, j ≠ 165 → j ≠ 176 → j ≠ 177 → j ≠ 178 → ¬ (150 ≤ j ∧ j ≤ 156) → (hup (hup (hup G2 177 (BA 24 (updN z (12 * (1 - e) + L) pk.length))) 176 (BA 2 (updN (fun j => (wi (S.1 j)).length) (1 - e) (L + 1)))) 165 (BA 2 (updN (fun j => nm (S.1 j) 0) e (nm (S.1 e) 0 + 1)))).1 j = G.1 j := fun j q1 q2 q3 q4 q5 => by
        rw [hup_ne q1, hup_ne q2, hup_ne q3]
        exact F.2 j (by omega)
      obtain ⟨S1, hS1⟩ : ∃ S1, S1 = sE S (1 - e) (swi (S.1 (1 - e)) (wi (S.1 (1 - e)) ++ [pk])) := ⟨_, rfl⟩
      have hne : e ≠ 1 - e := by omega
      have eS1 : S1.1 e = S.1 e := by rw [hS1]; exact sE_n hne
      have er : ∀ j, rw9 (S1.1 j) = rw9 (S.1 j) := fun j => by rw [hS1]; exact sE_rw (S := S) (e := 1 - e) (s := swi (S.1 (1 - e)) (wi (S.1 (1 - e)) ++ [pk])) rfl j
      have ef : ∀ j, fl (S1.1 j) = fl (S.1 j) := fun j => by rw [hS1]; exact sE_fl (S := S) (e := 1 - e) (s := swi (S.1 (1 - e)) (wi (S.1 (1 - e)) ++ [pk])) rfl j
      have en : ∀ j, nm (S1.1 j) = nm (S.1 j) := fun j => by rw [hS1]; exact sE_nm (S := S) (e := 1 - e) (s := swi (S.1 (1 - e)) (wi (S.1 (1 - e)) ++ [pk])) rfl j
      have eu : ∀ j, un (S1.1 j) = un (S.1 j) := fun j => by rw [hS1]; exact sE_un (S := S) (e := 1 - e) (s := swi (S.1 (1 - e)) (wi (S.1 (1 - e)) ++ [pk])) rfl j
      have eg : ∀ j, gt (S1.1 j) = gt (S.1 j) := fun j => by rw [hS1]; exact sE_gt (S := S) (e := 1 - e) (s := swi (S.1 (1 - e)) (wi (S.1 (1 - e)) ++ [pk])) rfl j
      have e2 : S1.2.1 = S.2.1 := by rw [hS1]; rfl
      rw [← hS1] at hw ⊢
      have goal1 : RM T S1 (hup (hup G2 177 (BA 24 (updN z (12 * (1 - e) + L) pk.length))) 176 (BA 2 (updN (fun j => (wi (S.1 j)).length) (1 - e) (L + 1)))) := by
        have eT : ∀ j, j ≠ 176 → j ≠ 177 → j ≠ 178 → ¬ (150 ≤ j ∧ j ≤ 156) → (hup (hup G2 177 (BA 24 (updN z (12 * (1 - e) + L) pk.length))) 176 (BA 2 (updN (fun j => (wi (S.1 j)).length) (1 - e) (L + 1)))).1 j = G.1 j := fun j q2 q3 q4 q5 => by
          rw [hup_ne q2, hup_ne q3]
          exact F.2 j (by omega)
        refine ⟨sc.fp (fun j hj => (hup_ne (by omega)).trans (hup_ne (by omega))), (h2.fp (eT _ (by decide) (by decide) (by decide) (by decide))).st (fun j _ => by rw [er j]; exact ⟨rfl, rfl, rfl⟩) e2, (h3.fp (eT _ (by decide) (by decide) (by decide) (by decide))).st (fun j _ => by rw [er j]), (h4.fp (eT _ (by decide) (by decide) (by decide) (by decide))).st (fun j _ => by rw [er j]; exact ⟨rfl, rfl⟩), (h5.fp (eT _ (by decide) (by decide) (by decide) (by decide))).st (fun j _ => by rw [er j]; exact ⟨rfl, rfl, rfl, rfl⟩), (h6.fp (eT _ (by decide) (by decide) (by decide) (by decide))).st (fun j _ => by rw [er j]; exact ⟨rfl, rfl⟩), (h7.fp (fun j _ _ => eT j (by omega) (by omega) (by omega) (by omega))).st eg, hw.fp (fun j _ _ => (hup_ne (by omega)).symm), ?_, ?_⟩
        · exact rFl.st (S := S) (rFl.fp ⟨a0, a1, a2, a3, a4, a5, a6, a7⟩ (fun j _ _ => eT j (by omega) (by omega) (by omega) (by omega))) (fun j k _ => by rw [ef j])
        · exact rNm.st (S := S) (rNm.fp ⟨m0, m1, m2, m3⟩ (fun j _ _ => eT j (by omega) (by omega) (by omega) (by omega))) (fun j => ⟨en j, eu j⟩)
      have := goal1.n0 (e := e) (n := nm (S.1 e) 0 + 1)
      rw [eS1] at this
      rw [show (fun j => nm (S1.1 j) 0) = fun j => nm (S.1 j) 0 from funext (fun j => by rw [en j])] at this
      exact this
  refine V_sipush (v := nI 240) rfl (by decide) ?_
  refine V_bipush (v := nI 12) rfl (by decide) ?_
  refine V_iload_n rfl (by first | rfl | assumption) ?_
  refine V_imulN rfl ?_
  refine V_aload_n rfl (by first | rfl | assumption) ?_
  refine V_getf rfl rfl rfl (by repeat (first | exact hup_eq | assumption | refine Eq.trans (hup_ne (by first | assumption | exact Ne.symm (by assumption) | decide | omega)) ?_)) (by first | rfl | assumption) ?_
  refine V_iload_n rfl (by first | rfl | assumption) ?_
  refine V_ialdN rfl (by repeat (first | exact hup_eq | assumption | refine Eq.trans (hup_ne (by first | assumption | exact Ne.symm (by assumption) | decide | omega)) ?_)) rfl (by first | omega | decide) (by first | omega | decide) ?_
  refine V_iaddN rfl ?_
  rw [← hL]
  refine V_imulN rfl ?_
  rw [← hA]
  refine V_istore_n rfl (by decide) ?_
  refine V_aload_n rfl (by first | rfl | assumption) ?_
  refine V_getf rfl rfl rfl (by repeat (first | exact hup_eq | assumption | refine Eq.trans (hup_ne (by first | assumption | exact Ne.symm (by assumption) | decide | omega)) ?_)) (by first | rfl | assumption) ?_
  refine V_aload_n rfl (by first | rfl | assumption) ?_
  refine V_getf rfl rfl rfl (by repeat (first | exact hup_eq | assumption | refine Eq.trans (hup_ne (by first | assumption | exact Ne.symm (by assumption) | decide | omega)) ?_)) (by first | rfl | assumption) ?_
  refine V_iload_n rfl (by first | rfl | assumption) ?_
  refine V_zaldZ rfl (by repeat (first | exact hup_eq | assumption | refine Eq.trans (hup_ne (by first | assumption | exact Ne.symm (by assumption) | decide | omega)) ?_)) rfl (by first | omega | decide) (by first | omega | decide) ?_
  refine V_callS (M' := mX12_zerosOf) (mc := 0) (ms := 0) (bc' := 0) (bs' := 0) rfl cw_X12_295 is_X12_zerosOf rfl (Nat.le_of_ble_eq_true rfl) ⟨Nat.le_of_ble_eq_true rfl, Nat.le_of_ble_eq_true rfl⟩ ⟨Nat.le_of_ble_eq_true rfl, Nat.le_of_ble_eq_true rfl⟩ (As := [.int (nI p.length), .int (bI (fl (S.1 e) 6))]) (c_mzeros (Q := fun o G2 => o = .inl (some (.int (nI (zb p.length (fl (S.1 e) 6))))) ∧ G2 = G) (by omega) ⟨rfl, rfl⟩) (fun o G2 h => ?_) (fun E G' h => by cases h.1)
  obtain ⟨h, rfl⟩ := h
  cases h
  have hzl := pln_max (p := p) (made := fl (S.1 e) 6) hp2
  rw [pln_len] at hzl
  have hzb := zb_lt p.length (fl (S.1 e) 6)
  have hpln := pln_lst p (fl (S.1 e) 6)
  obtain ⟨zz, hzz⟩ : ∃ zz, zz = zb p.length (fl (S.1 e) 6) := ⟨_, rfl⟩
  rw [← hzz] at hzl hzb hpln ⊢
  obtain ⟨n, hn⟩ : ∃ n, n = 5 + p.length + zz := ⟨_, rfl⟩
  rw [← hn] at hzl hpln
  have hn216 : n ≤ 216 := by
    cases hm : fl (S.1 e) 6
    · rw [hm] at hzl; exact hzl
    · rw [hm] at hzl; have hzl : n ≤ 212 := hzl; omega
  have hgd : ∀ j, j < p.length → gD p j = pb j := fun j hj => gD_of hpl hj
  have hgb : ∀ j, j < p.length → gD p j < 256 := fun j hj => by rw [hgd j hj]; exact hpb j
  refine V_istore rfl (by decide) ?_
  refine V_iconst (v := nI 5) rfl (by decide) ?_
  refine V_aload_n rfl (by first | rfl | assumption) ?_
  refine V_getf rfl rfl rfl (by repeat (first | exact hup_eq | assumption | refine Eq.trans (hup_ne (by first | assumption | exact Ne.symm (by assumption) | decide | omega)) ?_)) (by first | rfl | assumption) ?_
  refine V_iaddN rfl ?_
  refine V_iload rfl (by first | rfl | assumption) ?_
  refine V_iaddN rfl ?_
  refine V_istore rfl (by decide) ?_
  refine V_iconst (v := nI 0) rfl (by decide) ?_
  refine V_istore rfl (by decide) ?_
  rw [← hn]
  have LP := V_loop (K := K) (bc := 0) (bs := 0) (M := mX12_post) (head := 78) (Q := Q) n (fun i lc G' => lc 0 = some (.ref 140) ∧ lc 1 = some (.int (nI e)) ∧ lc 2 = some (.int (nI (1 - e))) ∧ lc 3 = some (.int (nI A)) ∧ lc 4 = some (.int (nI zz)) ∧ lc 5 = some (.int (nI n)) ∧ lc 6 = some (.int (nI i)) ∧ G' = hup G2 178 (YA 5760 (ovw w A i (pnF p zz)))) ?_ ?_
  · exact LP 0 _ _ (Nat.zero_le _) ⟨rfl, rfl, rfl, rfl, rfl, rfl, rfl, by rw [ovw_0, hup_same g178]⟩
  · rintro i lc G' hi ⟨l0, l1, l2, l3, l4, l5, l6, rfl⟩ ih
    have tl : ∀ x : Int32, lw x = pnF p zz i → V K 0 0 mX12_post 152 lc [.int x, .int (nI (A + i)), .ref 178] (hup G2 178 (YA 5760 (ovw w A i (pnF p zz)))) Q := by
      intro x hx
      refine V_bastM rfl hup_eq rfl (by omega) (by decide) ?_
      refine V_iincN (d := 1) rfl (by first | rfl | assumption) (by decide) (by decide) ?_
      refine V_goto rfl ?_
      rw [hup_hup, ovw_s' hx]
      exact ih _ _ ⟨l0, l1, l2, l3, l4, l5, rfl, rfl⟩
    refine V_iload rfl (by first | rfl | assumption) ?_
    refine V_iload rfl (by first | rfl | assumption) ?_
    refine V_icmp_geN rfl (by omega) (by omega) (fun h => absurd h (by omega)) (fun _ => ?_)
    refine V_aload_n rfl (by first | rfl | assumption) ?_
    refine V_getf rfl rfl rfl (by repeat (first | exact hup_eq | assumption | refine Eq.trans (hup_ne (by first | assumption | exact Ne.symm (by assumption) | decide | omega)) ?_)) (by first | rfl | assumption) ?_
    refine V_iload_n rfl (by first | rfl | assumption) ?_
    refine V_iload rfl (by first | rfl | assumption) ?_
    refine V_iaddN rfl ?_
    refine V_iload rfl (by first | rfl | assumption) ?_
    refine V_iconst (v := nI 4) rfl (by decide) ?_
    refine V_icmp_geN rfl (by omega) (by decide) (fun h4 => ?_) (fun h4 => ?_)
    · refine V_iload rfl (by first | rfl | assumption) ?_
      refine V_iconst (v := nI 4) rfl (by decide) ?_
      refine V_icmp_neN rfl (by omega) (by decide) (fun h5 => ?_) (fun h5 => ?_)
      · refine V_iload rfl (by first | rfl | assumption) ?_
        refine V_iconst (v := nI 5) rfl (by decide) ?_
        refine V_aload_n rfl (by first | rfl | assumption) ?_
        refine V_getf rfl rfl rfl (by repeat (first | exact hup_eq | assumption | refine Eq.trans (hup_ne (by first | assumption | exact Ne.symm (by assumption) | decide | omega)) ?_)) (by first | rfl | assumption) ?_
        refine V_iaddN rfl ?_
        refine V_icmp_geN rfl (by omega) (by omega) (fun h6 => ?_) (fun h6 => ?_)
        · refine V_iconst (v := nI 0) rfl (by decide) ?_
          refine tl _ ?_
          unfold pnF
          rw [lw_N, if_neg (by omega), if_neg h5, if_neg (by omega)]
        · refine V_aload_n rfl (by first | rfl | assumption) ?_
          refine V_getf rfl rfl rfl (by repeat (first | exact hup_eq | assumption | refine Eq.trans (hup_ne (by first | assumption | exact Ne.symm (by assumption) | decide | omega)) ?_)) (by first | rfl | assumption) ?_
          refine V_iload rfl (by first | rfl | assumption) ?_
          refine V_iconst (v := nI 5) rfl (by decide) ?_
          refine V_isubN rfl (by first | omega | decide) ?_
          refine V_baldB rfl (by repeat (first | exact hup_eq | assumption | refine Eq.trans (hup_ne (by first | assumption | exact Ne.symm (by assumption) | decide | omega)) ?_)) rfl (by first | omega | decide) (by first | omega | decide) ?_
          refine V_goto rfl ?_
          refine tl _ ?_
          unfold pnF
          rw [lw_B, Nat.mod_eq_of_lt (hpb _), if_neg (by omega), if_neg h5, if_pos (by omega), hgd _ (by omega)]
      · refine V_iload rfl (by first | rfl | assumption) ?_
        refine V_i2bN rfl ?_
        refine V_goto rfl ?_
        refine tl _ ?_
        unfold pnF
        rw [lw_B, if_neg (by omega), if_pos h5, Nat.mod_mod]
        omega
    · refine V_iload rfl (by first | rfl | assumption) ?_
      refine V_iconst (v := nI 4) rfl (by decide) ?_
      refine V_isubN rfl (by first | omega | decide) ?_
      refine V_bipush (v := nI 24) rfl (by decide) ?_
      refine V_bipush (v := nI 8) rfl (by decide) ?_
      refine V_iload rfl (by first | rfl | assumption) ?_
      refine V_imulN rfl ?_
      refine V_isubN rfl (by first | omega | decide) ?_
      refine V_ishrN rfl (by first | omega | decide) (by first | omega | decide) ?_
      refine V_i2bN rfl ?_
      refine V_goto rfl ?_
      refine tl _ ?_
      unfold pnF
      rw [lw_B, if_pos (by omega), Nat.mod_mod, show n - 4 = 1 + p.length + zz by omega]
  rintro lc G' ⟨l0, l1, l2, l3, l4, l5, l6, rfl⟩
  refine V_iload rfl (by first | rfl | assumption) ?_
  refine V_iload rfl (by first | rfl | assumption) ?_
  refine V_icmp_geN rfl (by omega) (by omega) (fun _ => ?_) (fun h => absurd (Nat.le_refl _) h)
  obtain ⟨w1, hw1⟩ : ∃ w1, w1 = ovw w A n (pnF p zz) := ⟨_, rfl⟩
  rw [← hw1]
  have hw1b : ∀ j, w1 j < 256 := fun j => by rw [hw1]; exact ovw_lt hwb (fun j _ => pnF_lt (by omega) hgb) j
  have hw1o : ∀ j, j < A ∨ A + n ≤ j → w1 j = w j := fun j hj => by rw [hw1]; exact ovw_out hj
  have hw1i : ∀ j, j < n → w1 (A + j) = gD (pln p (fl (S.1 e) 6)) j := fun j hj => by rw [hw1, ovw_in hj, hpln, gD_lst hj]
  clear hw1
  refine V_aload_n rfl (by first | rfl | assumption) ?_
  refine V_getf rfl rfl rfl (by repeat (first | exact hup_eq | assumption | refine Eq.trans (hup_ne (by first | assumption | exact Ne.symm (by assumption) | decide | omega)) ?_)) (by first | rfl | assumption) ?_
  refine V_iload_n rfl (by first | rfl | assumption) ?_
  refine V_zaldZ rfl (by repeat (first | exact hup_eq | assumption | refine Eq.trans (hup_ne (by first | assumption | exact Ne.symm (by assumption) | decide | omega)) ?_)) rfl (by first | omega | decide) (by first | omega | decide) ?_
  refine V_if_eqB rfl (fun hm => ?_) (fun hm => ?_)
  · rw [hm] at hpk hpln hw1i
    have hpk2 : pk = pln p false := by rw [hpk]; rfl
    have hpl2 : pk.length = n := by rw [hpk2, hpln, lst_len]
    refine fin lc _ w1 l0 l1 l2 (by rw [hpl2]; exact l5) (FP.rf.hup (by omega)) (hR.1.fp (fun j hj => hup_ne (by omega))) hup_eq hw1b (fun j hj => hw1o j (by omega)) (by omega) ?_
    rw [hpl2, hpk2]
    refine lst_ext (by rw [← hpk2]; exact hpl2) hw1i
  · rw [hm] at hpk hpln hw1i hzl
    have hzl : n ≤ 212 := hzl
    obtain ⟨nn, hnn⟩ : ∃ nn, nn = nm (S.1 e) 0 := ⟨_, rfl⟩
    rw [← hnn] at hsent hpk
    obtain ⟨G3, hG3⟩ : ∃ G3, G3 = hup G2 178 (YA 5760 w1) := ⟨_, rfl⟩
    rw [← hG3]
    have F3 : FP (fun j => j = 178) G2 G3 := by rw [hG3]; exact FP.rf.hup rfl
    have k178 : G3.1 178 = some (YA 5760 w1) := by rw [hG3, hup_eq]
    clear hG3
    have k140 := F3.get (by decide) g140
    have k160 := F3.get (by decide) g160
    have k165 := F3.get (by decide) n0
    have sc3 : scM T G3 := hR.1.fp (fun j hj => F3.2 j (by omega))
    refine V_aload_n rfl (by first | rfl | assumption) ?_
    refine V_aload_n rfl (by first | rfl | assumption) ?_
    refine V_getf rfl rfl rfl (by repeat (first | exact hup_eq | assumption | refine Eq.trans (hup_ne (by first | assumption | exact Ne.symm (by assumption) | decide | omega)) ?_)) (by first | rfl | assumption) ?_
    refine V_iload_n rfl (by first | rfl | assumption) ?_
    refine V_iconst (v := nI 4) rfl (by decide) ?_
    refine V_sipush (v := nI 128) rfl (by decide) ?_
    refine V_iload_n rfl (by first | rfl | assumption) ?_
    refine V_imulN rfl ?_
    refine V_aload_n rfl (by first | rfl | assumption) ?_
    refine V_getf rfl rfl rfl (by repeat (first | exact hup_eq | assumption | refine Eq.trans (hup_ne (by first | assumption | exact Ne.symm (by assumption) | decide | omega)) ?_)) (by first | rfl | assumption) ?_
    refine V_iload_n rfl (by first | rfl | assumption) ?_
    refine V_ialdN rfl (by repeat (first | exact hup_eq | assumption | refine Eq.trans (hup_ne (by first | assumption | exact Ne.symm (by assumption) | decide | omega)) ?_)) rfl (by first | omega | decide) (by first | omega | decide) ?_
    rw [← hnn]
    refine V_i2lN rfl (by omega) ?_
    refine V_iconst (v := nI 0) rfl (by decide) ?_
    refine V_callV (M' := mX12_hide) (mc := 0) (ms := 0) (bc' := 0) (bs' := 0) rfl cw_X12_299 iv_X12_hide (by repeat (first | exact hup_eq | assumption | refine Eq.trans (hup_ne (by first | assumption | exact Ne.symm (by assumption) | decide | omega)) ?_)) rfl rfl (Nat.le_of_ble_eq_true rfl) ⟨Nat.le_of_ble_eq_true rfl, Nat.le_of_ble_eq_true rfl⟩ ⟨Nat.le_of_ble_eq_true rfl, Nat.le_of_ble_eq_true rfl⟩ (As := [.ref 178, .int (nI A), .int (nI 4), .int (nI (128 * e)), .long (lN nn), .int (nI 0)]) (c_mhide (qt := T.2.2) (Q := fun o G4 => o = .inl none ∧ FP (fun j => PS j ∨ j = 178) G3 G4 ∧ sM G4 ∧ G4.1 178 = some (YA 5760 (ovw w1 A 4 (fun j => w1 (A + j) ^^^ STRM T.2.2 (sft kf (128 * e)) nn (0 + j / 64) (j % 64))))) hqt k140 sc3.2.2.2.1 k160 hkb (by omega) k178 (Or.inl rfl) (by omega) (by decide) hw1b (by omega) (by decide) (fun G4 h1 h2 h3 => ⟨rfl, h1, h2, h3⟩)) (fun o G4 h => ?_) (fun E G' h => by cases h.1)
    obtain ⟨h, F4, sm4, m178⟩ := h
    cases h
    obtain ⟨w2, hw2⟩ : ∃ w2, w2 = ovw w1 A 4 (fun j => w1 (A + j) ^^^ STRM T.2.2 (sft kf (128 * e)) nn (0 + j / 64) (j % 64)) := ⟨_, rfl⟩
    rw [← hw2] at m178
    have hw2b : ∀ j, w2 j < 256 := fun j => by rw [hw2]; exact ovw_lt hw1b (fun j _ => xor_b (hw1b _) (STRM_lt _ _ _ _ _)) j
    have m140 := F4.get (by unfold PS; omega) k140
    have m160 := F4.get (by unfold PS; omega) k160
    have m165 := F4.get (by unfold PS; omega) k165
    refine V_aload_n rfl (by first | rfl | assumption) ?_
    refine V_aload_n rfl (by first | rfl | assumption) ?_
    refine V_getf rfl rfl rfl (by repeat (first | exact hup_eq | assumption | refine Eq.trans (hup_ne (by first | assumption | exact Ne.symm (by assumption) | decide | omega)) ?_)) (by first | rfl | assumption) ?_
    refine V_iload_n rfl (by first | rfl | assumption) ?_
    refine V_iconst (v := nI 4) rfl (by decide) ?_
    refine V_iaddN rfl ?_
    refine V_iload rfl (by first | rfl | assumption) ?_
    refine V_iconst (v := nI 4) rfl (by decide) ?_
    refine V_isubN rfl (by first | omega | decide) ?_
    refine V_sipush (v := nI 128) rfl (by decide) ?_
    refine V_iload_n rfl (by first | rfl | assumption) ?_
    refine V_imulN rfl ?_
    refine V_bipush (v := nI 32) rfl (by decide) ?_
    refine V_iaddN rfl ?_
    refine V_aload_n rfl (by first | rfl | assumption) ?_
    refine V_getf rfl rfl rfl (by repeat (first | exact hup_eq | assumption | refine Eq.trans (hup_ne (by first | assumption | exact Ne.symm (by assumption) | decide | omega)) ?_)) (by first | rfl | assumption) ?_
    refine V_iload_n rfl (by first | rfl | assumption) ?_
    refine V_ialdN rfl (by repeat (first | exact hup_eq | assumption | refine Eq.trans (hup_ne (by first | assumption | exact Ne.symm (by assumption) | decide | omega)) ?_)) rfl (by first | omega | decide) (by first | omega | decide) ?_
    rw [← hnn]
    refine V_i2lN rfl (by omega) ?_
    refine V_iconst (v := nI 1) rfl (by decide) ?_
    refine V_callV (M' := mX12_hide) (mc := 0) (ms := 0) (bc' := 0) (bs' := 0) rfl cw_X12_299 iv_X12_hide (by repeat (first | exact hup_eq | assumption | refine Eq.trans (hup_ne (by first | assumption | exact Ne.symm (by assumption) | decide | omega)) ?_)) rfl rfl (Nat.le_of_ble_eq_true rfl) ⟨Nat.le_of_ble_eq_true rfl, Nat.le_of_ble_eq_true rfl⟩ ⟨Nat.le_of_ble_eq_true rfl, Nat.le_of_ble_eq_true rfl⟩ (As := [.ref 178, .int (nI (A + 4)), .int (nI (n - 4)), .int (nI (128 * e + 32)), .long (lN nn), .int (nI 1)]) (c_mhide (qt := T.2.2) (Q := fun o G5 => o = .inl none ∧ FP (fun j => PS j ∨ j = 178) G4 G5 ∧ sM G5 ∧ G5.1 178 = some (YA 5760 (ovw w2 (A + 4) (n - 4) (fun j => w2 (A + 4 + j) ^^^ STRM T.2.2 (sft kf (128 * e + 32)) nn (1 + j / 64) (j % 64))))) hqt m140 sm4 m160 hkb (by omega) m178 (Or.inl rfl) (by omega) (by decide) hw2b (by omega) (by decide) (fun G4 h1 h2 h3 => ⟨rfl, h1, h2, h3⟩)) (fun o G5 h => ?_) (fun E G' h => by cases h.1)
    obtain ⟨h, F5, sm5, q178⟩ := h
    cases h
    obtain ⟨w3, hw3⟩ : ∃ w3, w3 = ovw w2 (A + 4) (n - 4) (fun j => w2 (A + 4 + j) ^^^ STRM T.2.2 (sft kf (128 * e + 32)) nn (1 + j / 64) (j % 64)) := ⟨_, rfl⟩
    rw [← hw3] at q178
    have hw3b : ∀ j, w3 j < 256 := fun j => by rw [hw3]; exact ovw_lt hw2b (fun j _ => xor_b (hw2b _) (STRM_lt _ _ _ _ _)) j
    have hw3o : ∀ j, j < A ∨ A + n ≤ j → w3 j = w j := fun j hj => by rw [hw3, ovw_out (by omega), hw2, ovw_out (by omega)]; exact hw1o j hj
    have hkh : ∀ j, j < 32 → sft kf (128 * e) j = rw9 (S.1 e) 6 j := fun j hj => (hkf e he j hj).1
    have hkbo : ∀ j, j < 32 → sft kf (128 * e + 32) j = rw9 (S.1 e) 7 j := fun j hj => (hkf e he j hj).2.1
    obtain ⟨hd, hhd⟩ : ∃ hd, hd = hid T (rw9 (S.1 e) 6) (rw9 (S.1 e) 7) nn (pln p true) := ⟨_, rfl⟩
    have hlp : (pln p true).length = n := by rw [hpln, lst_len]
    have hhl : hd.length = n := by rw [hhd]; unfold hid; rw [lst_len, hlp]
    have hw3i : ∀ j, j < n → w3 (A + j) = gD hd j := fun j hj => by
      rw [hhd]
      unfold hid
      rw [hlp, gD_lst hj, ← hw1i j hj]
      by_cases z4 : j < 4
      · rw [hw3, ovw_out (by omega), hw2, ovw_in z4]
        unfold ksm
        rw [if_pos z4, show 0 + j / 64 = 0 by omega, show j % 64 = j by omega, STRM_congr (k' := rw9 (S.1 e) 6) hkh]
      · have ej : A + j = A + 4 + (j - 4) := by omega
        rw [ej, hw3, ovw_in (by omega), hw2, ovw_out (by omega)]
        unfold ksm
        rw [if_neg z4, STRM_congr (k' := rw9 (S.1 e) 7) hkbo]
    have q140 := F5.get (by unfold PS; omega) m140
    have q160 := F5.get (by unfold PS; omega) m160
    have q165 := F5.get (by unfold PS; omega) m165
    have FF : FP (fun j => (150 ≤ j ∧ j ≤ 152) ∨ j = 178) G2 G5 := ((F3.sub (fun x hx => by omega)).trans F4 (fun x hx => by unfold PS at hx; omega)).trans F5 (fun x hx => by unfold PS at hx; omega)
    have tm5 : tM G5 := hR.1.2.2.2.2.1.fp (fun j a b => FF.2 j (by omega))
    refine V_aload_n rfl (by first | rfl | assumption) ?_
    refine V_aload_n rfl (by first | rfl | assumption) ?_
    refine V_getf rfl rfl rfl (by repeat (first | exact hup_eq | assumption | refine Eq.trans (hup_ne (by first | assumption | exact Ne.symm (by assumption) | decide | omega)) ?_)) (by first | rfl | assumption) ?_
    refine V_iload_n rfl (by first | rfl | assumption) ?_
    refine V_iload rfl (by first | rfl | assumption) ?_
    refine V_sipush (v := nI 128) rfl (by decide) ?_
    refine V_iload_n rfl (by first | rfl | assumption) ?_
    refine V_imulN rfl ?_
    refine V_bipush (v := nI 32) rfl (by decide) ?_
    refine V_iaddN rfl ?_
    refine V_aload_n rfl (by first | rfl | assumption) ?_
    refine V_getf rfl rfl rfl (by repeat (first | exact hup_eq | assumption | refine Eq.trans (hup_ne (by first | assumption | exact Ne.symm (by assumption) | decide | omega)) ?_)) (by first | rfl | assumption) ?_
    refine V_iload_n rfl (by first | rfl | assumption) ?_
    refine V_ialdN rfl (by repeat (first | exact hup_eq | assumption | refine Eq.trans (hup_ne (by first | assumption | exact Ne.symm (by assumption) | decide | omega)) ?_)) rfl (by first | omega | decide) (by first | omega | decide) ?_
    rw [← hnn]
    refine V_i2lN rfl (by omega) ?_
    refine V_callV (M' := mX12_sealPacket) (mc := 0) (ms := 0) (bc' := 0) (bs' := 0) rfl cw_X12_303 iv_X12_sealPacket (by repeat (first | exact hup_eq | assumption | refine Eq.trans (hup_ne (by first | assumption | exact Ne.symm (by assumption) | decide | omega)) ?_)) rfl rfl (Nat.le_of_ble_eq_true rfl) ⟨Nat.le_of_ble_eq_true rfl, Nat.le_of_ble_eq_true rfl⟩ ⟨Nat.le_of_ble_eq_true rfl, Nat.le_of_ble_eq_true rfl⟩ (As := [.ref 178, .int (nI A), .int (nI n), .int (nI (128 * e + 32)), .long (lN nn)]) (c_msealP (qt := T.2.2) (Q := fun o G6 => o = .inl none ∧ ∃ t, FP (fun j => PS j ∨ PT j) G5 G6 ∧ sM G6 ∧ tM G6 ∧ G6.1 156 = some (YA 16 t) ∧ (∀ j, t j < 256) ∧ ∀ j, j < 16 → t j = TAG (sft w3 A) n (STRM T.2.2 (sft kf (128 * e + 32)) nn 0) j) hqt q140 sm5 tm5 q160 hkb (by omega) q178 (Or.inl rfl) (by omega) (by decide) hw3b (by omega) (fun G6 t h1 h2 h3 h4 h5 h6 => ⟨rfl, t, h1, h2, h3, h4, h5, h6⟩)) (fun o G6 h => ?_) (fun E G' h => by cases h.1)
    obtain ⟨h, t, F6, sm6, tm6, r156, ht1, ht2⟩ := h
    cases h
    have r140 := F6.get (by unfold PS PT; omega) q140
    have r178 := F6.get (by unfold PS PT; omega) q178
    have FG : FP (fun j => (150 ≤ j ∧ j ≤ 156) ∨ j = 178) G2 G6 := (FF.sub (fun x hx => by omega)).trans F6 (fun x hx => by unfold PS PT at hx; omega)
    have sc6 : scM T G6 := hR.1.st (G' := G6) sm6 tm6 (fun j hj => FG.2 j (by omega))
    clear sm4 sm5 tm5 F3 F4 F5 F6 FF m178 q178 k178
    refine V_iconst (v := nI 0) rfl (by decide) ?_
    refine V_istore rfl (by decide) ?_
    refine V_loop 16 (fun i lc G7 => lc 0 = some (.ref 140) ∧ lc 1 = some (.int (nI e)) ∧ lc 2 = some (.int (nI (1 - e))) ∧ lc 3 = some (.int (nI A)) ∧ lc 5 = some (.int (nI n)) ∧ lc 6 = some (.int (nI i)) ∧ G7 = hup G6 178 (YA 5760 (ovw w3 (A + n) i t))) ?_ ?_ 0 _ _ (Nat.zero_le _) ⟨l0, l1, l2, l3, l5, rfl, by rw [ovw_0, hup_same r178]⟩
    · rintro i lc G7 hi ⟨l0, l1, l2, l3, l5, l6, rfl⟩ ih
      refine V_iload rfl (by first | rfl | assumption) ?_
      refine V_bipush (v := nI 16) rfl (by decide) ?_
      refine V_icmp_geN rfl (by omega) (by decide) (fun h => absurd h (by omega)) (fun _ => ?_)
      refine V_aload_n rfl (by first | rfl | assumption) ?_
      refine V_getf rfl rfl rfl (by repeat (first | exact hup_eq | assumption | refine Eq.trans (hup_ne (by first | assumption | exact Ne.symm (by assumption) | decide | omega)) ?_)) (by first | rfl | assumption) ?_
      refine V_iload_n rfl (by first | rfl | assumption) ?_
      refine V_iload rfl (by first | rfl | assumption) ?_
      refine V_iaddN rfl ?_
      refine V_iload rfl (by first | rfl | assumption) ?_
      refine V_iaddN rfl ?_
      refine V_aload_n rfl (by first | rfl | assumption) ?_
      refine V_getf rfl rfl rfl (by repeat (first | exact hup_eq | assumption | refine Eq.trans (hup_ne (by first | assumption | exact Ne.symm (by assumption) | decide | omega)) ?_)) (by first | rfl | assumption) ?_
      refine V_iload rfl (by first | rfl | assumption) ?_
      refine V_baldB rfl (by repeat (first | exact hup_eq | assumption | refine Eq.trans (hup_ne (by first | assumption | exact Ne.symm (by assumption) | decide | omega)) ?_)) rfl (by first | omega | decide) (by first | omega | decide) ?_
      refine V_bastB rfl (by repeat (first | exact hup_eq | assumption | refine Eq.trans (hup_ne (by first | assumption | exact Ne.symm (by assumption) | decide | omega)) ?_)) rfl (by first | omega | decide) (by first | omega | decide) (by first | assumption | solve_by_elim | exact Nat.mod_lt _ (by decide) | omega) ?_
      refine V_iincN (d := 1) rfl (by first | rfl | assumption) (by decide) (by decide) ?_
      refine V_goto rfl ?_
      rw [hup_hup, ovw_s]
      exact ih _ _ ⟨l0, l1, l2, l3, l5, rfl, rfl⟩
    · rintro lc G7 ⟨l0, l1, l2, l3, l5, l6, rfl⟩
      have hpk2 : pk = hd ++ tgL T (rw9 (S.1 e) 7) nn hd := by rw [hpk, hhd]; rfl
      have hpl2 : pk.length = n + 16 := by rw [hpk2, List.length_append, hhl]; unfold tgL; rw [lst_len]
      refine V_iload rfl (by first | rfl | assumption) ?_
      refine V_bipush (v := nI 16) rfl (by decide) ?_
      refine V_icmp_geN rfl (by decide) (by decide) (fun _ => ?_) (fun h => absurd (Nat.le_refl _) h)
      refine V_iload rfl (by first | rfl | assumption) ?_
      refine V_bipush (v := nI 16) rfl (by decide) ?_
      refine V_iaddN rfl ?_
      refine V_istore rfl (by decide) ?_
      refine fin _ _ (ovw w3 (A + n) 16 t) l0 l1 l2 (by rw [hpl2]; rfl) (FG.hup (by omega)) (sc6.fp (fun j hj => hup_ne (by omega))) hup_eq (ovw_lt hw3b (fun j _ => ht1 j)) (fun j hj => by rw [ovw_out (by omega)]; exact hw3o j (by omega)) (by omega) ?_
      rw [hpl2, lst_app, hpk2]
      have c1 : lst (fun j => ovw w3 (A + n) 16 t (A + j)) n = hd := lst_ext hhl (fun j hj => by rw [ovw_out (by omega)]; exact hw3i j hj)
      have c2 : lst (fun j => ovw w3 (A + n) 16 t (A + (n + j))) 16 = tgL T (rw9 (S.1 e) 7) nn hd := by
        unfold tgL
        refine lst_congr (fun j hj => ?_)
        rw [← Nat.add_assoc, ovw_in hj, ht2 j hj, hhl]
        exact TAG_congr (fun j hj => hw3i j hj) (fun j hj => STRM_congr hkbo) j
      rw [c1, c2]
end MPost2
