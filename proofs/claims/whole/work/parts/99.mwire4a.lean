section MWire4
variable {K : kK} {G : kG} {Q : kO → kG → Prop} {T : TB} {S : SG} {th ta os hs ps rs : Int32}
theorem RM.r160 {S' : SG} {G' : kG} (h : RM T S G) (F : ∀ j, 143 ≤ j → j ≤ 181 → j ≠ 160 → G'.1 j = G.1 j) (hw : rwo S S') (hk : ∀ i j, i < 6 ∨ 10 ≤ i → rw9 (S'.1 j) i = rw9 (S.1 j) i) (e2 : S'.2.1 = S.2.1) (h2 : rKy S' G') : RM T S' G' := by
  refine h.rw hw (fun j a b c => F j a b (by omega)) ?_ ?_ ?_ h2 ?_
  · exact (h.2.1.fp (F _ (by decide) (by decide) (by decide))).st (fun j _ => ⟨hk _ j (by decide), hk _ j (by decide), hk _ j (by decide)⟩) e2
  · exact (h.2.2.1.fp (F _ (by decide) (by decide) (by decide))).st (fun j _ => hk _ j (by decide))
  · exact (h.2.2.2.1.fp (F _ (by decide) (by decide) (by decide))).st (fun j _ => ⟨hk _ j (by decide), hk _ j (by decide)⟩)
  · exact (h.2.2.2.2.2.1.fp (F _ (by decide) (by decide) (by decide))).st (fun j _ => ⟨hk _ j (by decide), hk _ j (by decide)⟩)
theorem emt_rw {e j : Nat} {p : List Nat} (he : e < 2) : rw9 ((emt T S e p).1 j) = rw9 (S.1 j) ∧ (emt T S e p).2 = S.2 := by
  unfold emt
  split
  · exact ⟨rfl, rfl⟩
  · split
    · exact ⟨sE_rw (S := S) (e := e) (s := sfl (S.1 e) 0 false) rfl j, rfl⟩
    · refine ⟨?_, rfl⟩
      rw [sE_rw (e := e) (s := snm (S.1 e) 0 (nm (S.1 e) 0 + 1)) (by rw [sE_n (by omega)]; rfl) j]
      exact congrFun (pj_same (S := S) (fun s => rw9 s) (e := 1 - e) (s := swi (S.1 (1 - e)) (wi (S.1 (1 - e)) ++ [pkt T (fl (S.1 e) 6) (rw9 (S.1 e) 6) (rw9 (S.1 e) 7) (nm (S.1 e) 0) p])) rfl) j
theorem emt_f1 {e j : Nat} {p : List Nat} : fl ((emt T S e p).1 j) 1 = fl (S.1 j) 1 := by
  unfold emt
  split
  · rfl
  · split
    · exact congrFun (pj_same (S := S) (fun s => fl s 1) (e := e) (s := sfl (S.1 e) 0 false) rfl) j
    · have h1 := congrFun (pj_same (S := S) (fun s => fl s 1) (e := 1 - e) (s := swi (S.1 (1 - e)) (wi (S.1 (1 - e)) ++ [pkt T (fl (S.1 e) 6) (rw9 (S.1 e) 6) (rw9 (S.1 e) 7) (nm (S.1 e) 0) p])) rfl)
      have h2 := congrFun (pj_same (S := sE S (1 - e) (swi (S.1 (1 - e)) (wi (S.1 (1 - e)) ++ [pkt T (fl (S.1 e) 6) (rw9 (S.1 e) 6) (rw9 (S.1 e) 7) (nm (S.1 e) 0) p]))) (fun s => fl s 1) (e := e) (s := snm (S.1 e) 0 (nm (S.1 e) 0 + 1)) ((h1 e).symm)) j
      exact h2.trans (h1 j)
theorem rowP.rw {S' : SG} {R : Nat → Nat} (h : rowP S R) (e : ∀ j, rw9 (S'.1 j) = rw9 (S.1 j)) (e2 : S'.2.1 = S.2.1) : rowP S' R := by
  refine ⟨h.1, fun j hj => ⟨fun i hi => ?_, ?_⟩⟩
  · rw [e i]; exact (h.2 j hj).1 i hi
  · rw [e2]; exact (h.2 j hj).2
theorem emt_com {f : ES → ES} {e : Nat} {p : List Nat} (he : e < 2) (hf0 : ∀ s b, f (sfl s 0 b) = sfl (f s) 0 b) (hf1 : ∀ s n, f (snm s 0 n) = snm (f s) 0 n) (hp : ∀ s, fl (f s) 0 = fl s 0 ∧ fl (f s) 6 = fl s 6 ∧ rw9 (f s) 6 = rw9 s 6 ∧ rw9 (f s) 7 = rw9 s 7 ∧ nm (f s) 0 = nm s 0) : emt T (sE S e (f (S.1 e))) e p = sE (emt T S e p) e (f ((emt T S e p).1 e)) := by
  obtain ⟨p1, p2, p3, p4, p5⟩ := hp (S.1 e)
  have hne : 1 - e ≠ e := by omega
  unfold emt
  rw [sE_e, sE_n hne, p1, p2, p3, p4, p5]
  by_cases h1 : fl (S.1 e) 0 = false
  · rw [if_pos h1, if_pos h1]
  · rw [if_neg h1, if_neg h1]
    by_cases h2 : (wi (S.1 (1 - e))).length = 12
    · rw [if_pos h2, if_pos h2, sE_sE, sE_sE, sE_e, hf0]
    · rw [if_neg h2, if_neg h2, sE_e, sE_sE, hf1]
      unfold sE
      refine Prod.ext ?_ rfl
      funext j
      unfold up
      by_cases q : j = e
      · simp only [q, if_true]
      · simp only [q, if_false]
theorem com_sfl {x : ES} {k0 k1 : Nat → Nat} {b : Bool} : srw (srw (sfl x 0 b) 10 k0) 11 k1 = sfl (srw (srw x 10 k0) 11 k1) 0 b := rfl
theorem com_snm {x : ES} {k0 k1 : Nat → Nat} {n : Nat} : srw (srw (snm x 0 n) 10 k0) 11 k1 = snm (srw (srw x 10 k0) 11 k1) 0 n := rfl
theorem com_pr {x s : ES} {k0 k1 : Nat → Nat} (h : fl x 0 = fl s 0 ∧ fl x 6 = fl s 6 ∧ rw9 x 6 = rw9 s 6 ∧ rw9 x 7 = rw9 s 7 ∧ nm x 0 = nm s 0) : fl (srw (srw x 10 k0) 11 k1) 0 = fl s 0 ∧ fl (srw (srw x 10 k0) 11 k1) 6 = fl s 6 ∧ rw9 (srw (srw x 10 k0) 11 k1) 6 = rw9 s 6 ∧ rw9 (srw (srw x 10 k0) 11 k1) 7 = rw9 s 7 ∧ nm (srw (srw x 10 k0) 11 k1) 0 = nm s 0 := h
theorem f_com {H sh : Nat → Nat} {cm : Nat} : (∀ s b, mkS T (ses (sfl s 0 b) H) sh H cm = sfl (mkS T (ses s H) sh H cm) 0 b) ∧ (∀ s n, mkS T (ses (snm s 0 n) H) sh H cm = snm (mkS T (ses s H) sh H cm) 0 n) ∧ ∀ s, fl (mkS T (ses s H) sh H cm) 0 = fl s 0 ∧ fl (mkS T (ses s H) sh H cm) 6 = fl s 6 ∧ rw9 (mkS T (ses s H) sh H cm) 6 = rw9 s 6 ∧ rw9 (mkS T (ses s H) sh H cm) 7 = rw9 s 7 ∧ nm (mkS T (ses s H) sh H cm) 0 = nm s 0 := by
  refine ⟨fun s b => ?_, fun s n => ?_, fun s => ?_⟩
  · have e1 : ses (sfl s 0 b) H = sfl (ses s H) 0 b := by
      unfold ses
      have : fl (sfl s 0 b) 1 = fl s 1 := rfl
      rw [this]
      split
      · rfl
      · unfold sfl srw
        refine Prod.ext ?_ rfl
        funext j
        show (if j = 1 then true else if j = 0 then b else s.1 j) = if j = 0 then b else if j = 1 then true else s.1 j
        by_cases h1 : j = 1
        · subst h1; rfl
        · rw [if_neg h1, if_neg h1]
    rw [e1]
    unfold mkS
    have e2 : rw9 (sfl (ses s H) 0 b) 2 = rw9 (ses s H) 2 := rfl
    rw [e2]
    exact com_sfl
  · have e1 : ses (snm s 0 n) H = snm (ses s H) 0 n := by
      unfold ses
      have : fl (snm s 0 n) 1 = fl s 1 := rfl
      rw [this]
      split <;> rfl
    rw [e1]
    unfold mkS
    have e2 : rw9 (snm (ses s H) 0 n) 2 = rw9 (ses s H) 2 := rfl
    rw [e2]
    exact com_snm
  · have e1 : fl (ses s H) 0 = fl s 0 ∧ fl (ses s H) 6 = fl s 6 ∧ rw9 (ses s H) 6 = rw9 s 6 ∧ rw9 (ses s H) 7 = rw9 s 7 ∧ nm (ses s H) 0 = nm s 0 := by
      unfold ses
      split
      · exact ⟨rfl, rfl, rfl, rfl, rfl⟩
      · exact ⟨rfl, rfl, rfl, rfl, rfl⟩
    unfold mkS
    exact com_pr e1
/-- the new keys are in use -/
def nwS (s : ES) (k0 k1 : Nat → Nat) : ES := sfl (sfl (srw (srw s 6 k0) 7 k1) 5 true) 6 true
theorem nw_com {x : ES} {k0 k1 k2 k3 : Nat → Nat} : sfl (sfl (srw (srw (srw (srw x 10 k0) 11 k1) 6 k2) 7 k3) 5 true) 6 true = sfl (sfl (srw (srw (srw (srw x 6 k2) 7 k3) 10 k0) 11 k1) 5 true) 6 true := by
  unfold sfl srw
  refine Prod.ext rfl (Prod.ext rfl (Prod.ext rfl (Prod.ext ?_ rfl)))
  funext j
  unfold up
  show (if j = 7 then k3 else if j = 6 then k2 else if j = 11 then k1 else if j = 10 then k0 else rw9 x j) = if j = 11 then k1 else if j = 10 then k0 else if j = 7 then k3 else if j = 6 then k2 else rw9 x j
  by_cases h7 : j = 7
  · subst h7; rfl
  · by_cases h6 : j = 6
    · subst h6; rfl
    · simp only [h7, h6, if_false]
theorem tnk_mk {s : ES} {sh H : Nat → Nat} {sm cm : Nat} : nwS (mkS T (ses s H) sh H cm) (kyH T sh H (rw9 (ses s H) 2) sm) (kyH T sh H (rw9 (ses s H) 2) (sm + 1)) = tnk T s sh H sm cm := by
  obtain ⟨s1, h1, h2⟩ := tnk_f (T := T) (s := s) (sh := sh) (H := H) (sm := sm) (cm := cm)
  rw [h2, show ses s H = s1 from h1.symm]
  exact nw_com
abbrev PN (j : Nat) : Prop := PO j ∨ j = 160 ∨ j = 162 ∨ j = 170
set_option maxHeartbeats 4000000 in
theorem c_mpostNew {e : Nat} {NK k0 k1 : Nat → Nat} (he : e < 2) (hqt : qtO T.2.2) (g140 : G.1 140 = some (MO th ta os hs ps rs)) (hR : RM T S G) (hsent : nm (S.1 e) 0 < 2 ^ 31) (g161 : G.1 161 = some (YA 256 NK)) (hNb : ∀ j, NK j < 256) (hk : ∀ j, j < 32 → NK (128 * e + j) = k0 j ∧ NK (128 * e + 32 + j) = k1 j)
    (hq : ∀ G' ps', FP PN G G' → G'.1 140 = some (MO th ta os hs ps' rs) → RM T (sE (emt T S e [21]) e (nwS ((emt T S e [21]).1 e) k0 k1)) G' → Q (.inl none) G') : C K 0 0 mX12_postNew [.ref 140, .int (nI e)] G Q := by
  refine C_of okX12_postNew (Nat.le_of_ble_eq_true rfl) ?_
  refine V_aload_n rfl (by first | rfl | assumption) ?_
  refine V_iload_n rfl (by first | rfl | assumption) ?_
  refine V_bipush (v := nI 21) rfl (by decide) ?_
  refine V_callV (M' := mX12_postOne) (mc := 0) (ms := 0) (bc' := 0) (bs' := 0) rfl cw_X12_313 iv_X12_postOne (by repeat (first | exact hup_eq | assumption | refine Eq.trans (hup_ne (by first | assumption | exact Ne.symm (by assumption) | decide | omega)) ?_)) rfl rfl (Nat.le_of_ble_eq_true rfl) ⟨Nat.le_of_ble_eq_true rfl, Nat.le_of_ble_eq_true rfl⟩ ⟨Nat.le_of_ble_eq_true rfl, Nat.le_of_ble_eq_true rfl⟩ (As := [.int (nI e), .int (nI 21)]) (c_mpostOne (Q := fun o G2 => o = .inl none ∧ ∃ ps', FP PO G G2 ∧ G2.1 140 = some (MO th ta os hs ps' rs) ∧ RM T (emt T S e [21]) G2) he (by decide) hqt g140 hR hsent (fun G2 ps' h1 h2 h3 => ⟨rfl, ps', h1, h2, h3⟩)) (fun o G2 h => ?_) (fun E G' h => by cases h.1)
  obtain ⟨h, ps', F2, k140, hR2⟩ := h
  cases h
  have k161 := F2.get (by decide) g161
  obtain ⟨Z, hZ⟩ : ∃ Z, Z = emt T S e [21] := ⟨_, rfl⟩
  rw [← hZ] at hR2 hq
  obtain ⟨f0, f1, f2, f3, f4, k170, k162, f7⟩ := id hR2.2.2.2.2.2.2.2.2.1
  obtain ⟨kf, k160, hkb, hkf⟩ := id hR2.2.2.2.2.1
  refine V_aload_n rfl (by first | rfl | assumption) ?_
  refine V_getf rfl rfl rfl (by repeat (first | exact hup_eq | assumption | refine Eq.trans (hup_ne (by first | assumption | exact Ne.symm (by assumption) | decide | omega)) ?_)) (by first | rfl | assumption) ?_
  refine V_iload_n rfl (by first | rfl | assumption) ?_
  refine V_iconst (v := nI 1) rfl (by decide) ?_
  refine V_zastZ true rfl (by repeat (first | exact hup_eq | assumption | refine Eq.trans (hup_ne (by first | assumption | exact Ne.symm (by assumption) | decide | omega)) ?_)) (by decide) rfl (by first | omega | decide) (by first | omega | decide) ?_
  refine V_aload_n rfl (by first | rfl | assumption) ?_
  refine V_getf rfl rfl rfl (by repeat (first | exact hup_eq | assumption | refine Eq.trans (hup_ne (by first | assumption | exact Ne.symm (by assumption) | decide | omega)) ?_)) (by first | rfl | assumption) ?_
  refine V_iload_n rfl (by first | rfl | assumption) ?_
  refine V_iconst (v := nI 1) rfl (by decide) ?_
  refine V_zastZ true rfl (by repeat (first | exact hup_eq | assumption | refine Eq.trans (hup_ne (by first | assumption | exact Ne.symm (by assumption) | decide | omega)) ?_)) (by decide) rfl (by first | omega | decide) (by first | omega | decide) ?_
  refine V_iconst (v := nI 0) rfl (by decide) ?_
  refine V_istore_n rfl (by decide) ?_
  have hR3 := (hR2.f5 (e := e) (b := true))
  have hR4 := (hR3.f6 (e := e) (b := true))
  rw [sE_sE, sE_e, show (fun j => fl ((sE Z e (sfl (Z.1 e) 5 true)).1 j) 6) = fun j => fl (Z.1 j) 6 from pj_same (S := Z) (fun s => fl s 6) (e := e) (s := sfl (Z.1 e) 5 true) rfl] at hR4
  obtain ⟨G4, hG4⟩ : ∃ G4, G4 = hup (hup G2 170 (ZA 2 (up (fun j => fl (Z.1 j) 5) e true))) 162 (ZA 2 (up (fun j => fl (Z.1 j) 6) e true)) := ⟨_, rfl⟩
  rw [← hG4] at hR4 ⊢
  have F4 : FP (fun j => j = 170 ∨ j = 162) G2 G4 := by rw [hG4]; exact (FP.rf.hup (Or.inl rfl)).hup (Or.inr rfl)
  clear hG4
  have j140 := F4.get (by decide) k140
  have j160 := F4.get (by decide) k160
  have j161 := F4.get (by decide) k161
  refine V_loop 64 (fun i lc G' => lc 0 = some (.ref 140) ∧ lc 1 = some (.int (nI e)) ∧ lc 2 = some (.int (nI i)) ∧ G' = hup G4 160 (YA 256 (ovw kf (128 * e) i (fun k => NK (128 * e + k))))) ?_ ?_ 0 _ _ (Nat.zero_le _) ⟨rfl, rfl, rfl, by rw [ovw_0, hup_same j160]⟩
  · rintro i lc G' hi ⟨l0, l1, l2, rfl⟩ ih
    have hb := hNb (128 * e + i)
    refine V_iload_n rfl (by first | rfl | assumption) ?_
    refine V_bipush (v := nI 64) rfl (by decide) ?_
    refine V_icmp_geN rfl (by omega) (by decide) (fun h => absurd h (by omega)) (fun _ => ?_)
    refine V_aload_n rfl (by first | rfl | assumption) ?_
    refine V_getf rfl rfl rfl (by repeat (first | exact hup_eq | assumption | refine Eq.trans (hup_ne (by first | assumption | exact Ne.symm (by assumption) | decide | omega)) ?_)) (by first | rfl | assumption) ?_
    refine V_sipush (v := nI 128) rfl (by decide) ?_
    refine V_iload_n rfl (by first | rfl | assumption) ?_
    refine V_imulN rfl ?_
    refine V_iload_n rfl (by first | rfl | assumption) ?_
    refine V_iaddN rfl ?_
    refine V_aload_n rfl (by first | rfl | assumption) ?_
    refine V_getf rfl rfl rfl (by repeat (first | exact hup_eq | assumption | refine Eq.trans (hup_ne (by first | assumption | exact Ne.symm (by assumption) | decide | omega)) ?_)) (by first | rfl | assumption) ?_
    refine V_sipush (v := nI 128) rfl (by decide) ?_
    refine V_iload_n rfl (by first | rfl | assumption) ?_
    refine V_imulN rfl ?_
    refine V_iload_n rfl (by first | rfl | assumption) ?_
    refine V_iaddN rfl ?_
    refine V_baldB rfl (by repeat (first | exact hup_eq | assumption | refine Eq.trans (hup_ne (by first | assumption | exact Ne.symm (by assumption) | decide | omega)) ?_)) rfl (by first | omega | decide) (by first | omega | decide) ?_
    refine V_bastB rfl (by repeat (first | exact hup_eq | assumption | refine Eq.trans (hup_ne (by first | assumption | exact Ne.symm (by assumption) | decide | omega)) ?_)) rfl (by first | omega | decide) (by first | omega | decide) (by first | assumption | solve_by_elim | exact Nat.mod_lt _ (by decide) | omega) ?_
    refine V_iincN (d := 1) rfl (by first | rfl | assumption) (by decide) (by decide) ?_
    refine V_goto rfl ?_
    rw [hup_hup, ovw_s' (g := fun k => NK (128 * e + k)) (by rfl)]
    exact ih _ _ ⟨l0, l1, rfl, rfl⟩
  · rintro lc G' ⟨l0, l1, l2, rfl⟩
    refine V_iload_n rfl (by first | rfl | assumption) ?_
    refine V_bipush (v := nI 64) rfl (by decide) ?_
    refine V_icmp_geN rfl (by decide) (by decide) (fun _ => ?_) (fun h => absurd (Nat.le_refl _) h)
    have F9 : FP PN G G4 := (F2.sub (fun _ q => Or.inl q)).trans F4 (fun _ q => by show _ ∨ _; omega)
    refine V_vret rfl rfl (hq _ ps' (F9.hup (by decide)) ((hup_ne (by decide)).trans j140) ?_)
    have e9 : sE Z e (nwS (Z.1 e) k0 k1) = sE (sE Z e (sfl (sfl (Z.1 e) 5 true) 6 true)) e (srw (srw ((sE Z e (sfl (sfl (Z.1 e) 5 true) 6 true)).1 e) 6 k0) 7 k1) := by
      rw [sE_sE, sE_e]
      rfl
    rw [e9]
    refine hR4.r160 (fun j _ _ h => hup_ne h) (rwo_sE2 ⟨rfl, rfl, rfl, rfl, rfl⟩) (fun i j hi => congrFun (pj_same (S := sE Z e (sfl (sfl (Z.1 e) 5 true) 6 true)) (fun s => rw9 s i) (by show (if i = 7 then _ else if i = 6 then _ else _) = _; rw [if_neg (by omega), if_neg (by omega)])) j) rfl ⟨_, hup_eq, ovw_lt hkb (fun j _ => hNb _), fun i hi j hj => ?_⟩
    by_cases x : i = e
    · subst x
      have := hkf i hi j hj
      rw [sE_e, sE_e]
      refine ⟨?_, ?_, ?_, ?_⟩
      · rw [ovw_in (by omega)]; exact (hk j hj).1
      · rw [Nat.add_assoc, ovw_in (by omega), ← Nat.add_assoc]; exact (hk j hj).2
      · rw [ovw_out (by omega)]; exact this.2.2.1
      · rw [ovw_out (by omega)]; exact this.2.2.2
    · rw [sE_n x, sE_n x, ovw_out (by omega), ovw_out (by omega), ovw_out (by omega), ovw_out (by omega)]
      exact hkf i hi j hj
/-- the payload that came -/
def rdM (p : List Nat) (G : kG) : Prop := ∃ b, G.1 180 = some (YA 240 b) ∧ (∀ j, b j < 256) ∧ lst b p.length = p
theorem rdM.fp {p : List Nat} {G' : kG} (h : rdM p G) (e : G'.1 180 = G.1 180) : rdM p G' := by obtain ⟨f, a, b⟩ := h; exact ⟨f, e.trans a, b⟩
/-- MULTIPLY of rows, into a row of scratch -/
theorem RM.mul {R g : Nat → Nat} {a : Nat} {G' : kG} (h : RM T S G) (hRP : rowP S R) (F : FP PC G G') (hD : ∃ D, crM D G') (h7 : G'.1 157 = some (YA 640 (ovw R a 32 g))) (ha : 288 ≤ a) (hg : ∀ j, j < 32 → g j < 256) : RM T S G' ∧ rowP S (ovw R a 32 g) := by
  obtain ⟨D, hD⟩ := hD
  have h9 := hRP.sc ha hg
  exact ⟨h.sr (h.1.cr hD (fun j hj => F.2 j (by unfold PC; omega))) ⟨_, h7, h9⟩ (fun j a b => F.2 j (by unfold PC; omega)), h9⟩

end MWire4
