section MApi6
variable {K : kK} {G : kG} {Q : kO → kG → Prop} {T : TB} {S : SG} {th ta os hs ps rs : Int32}
theorem c_Mabout {x y : Int32} (h : RMA T S th G) (hq : ∀ G', FP PM G G' → RMA T (aAb S x.toInt y.toInt).2.2 (nI (aAb S x.toInt y.toInt).1) G' → Q (.inl (some (.int (aAb S x.toInt y.toInt).2.1))) G') : C K 0 0 mX12_about [.ref 140, .int x, .int y] G Q := by
  obtain ⟨hR, ht, ho, hs, ps, rs, g140⟩ := id h
  refine C_of okX12_about (Nat.le_of_ble_eq_true rfl) ?_
  have t29 : ∀ t : Nat, 0 < t → t < 3 → aAb S x.toInt y.toInt = (t, 0, S) → V K 0 0 mX12_about 29 (kla [.ref 140, .int x, .int y]) [.int (nI t), .ref 140] G Q := by
    intro t h1 h2 U
    rw [U] at hq
    refine V_pf_th rfl rfl rfl (by repeat (first | exact hup_eq | assumption | refine Eq.trans (hup_ne (by first | assumption | exact Ne.symm (by assumption) | decide | omega)) ?_)) ?_
    refine V_aload_n rfl (by first | rfl | assumption) ?_
    refine V_getf rfl rfl rfl (by repeat (first | exact hup_eq | assumption | refine Eq.trans (hup_ne (by first | assumption | exact Ne.symm (by assumption) | decide | omega)) ?_)) (by first | rfl | assumption) ?_
    refine V_if_leN rfl (by omega) (fun z => absurd z (by omega)) (fun _ => ?_)
    refine V_iconst (v := 0) rfl (by decide) ?_
    exact V_iret rfl rfl (hq _ (FP.rf.hup (by decide)) h.ob)
  have bad1 : ¬ (x.toInt = 0 ∨ x.toInt = 1) → V K 0 0 mX12_about 10 (kla [.ref 140, .int x, .int y]) [.ref 140] G Q := fun z => by
    refine V_iconst (v := nI 1) rfl (by decide) ?_
    refine V_goto rfl ?_
    exact t29 1 (by decide) (by decide) (by unfold aAb; rw [if_pos z])
  refine V_aload_n rfl (by rfl) ?_
  refine V_iload_n rfl (by rfl) ?_
  refine V_if_ltZ rfl rfl (fun z => bad1 (by omega)) (fun z1 => ?_)
  refine V_iload_n rfl (by rfl) ?_
  refine V_iconst (v := 1) rfl (by decide) ?_
  refine V_icmp_leZ (b := 1) rfl rfl (by decide) (fun z2 => ?_) (fun z => bad1 (by omega))
  clear bad1
  obtain ⟨e, he, hxe, hxi⟩ := e_of z1 z2
  rw [hxi] at hq t29
  clear z1 z2 hxi
  subst hxe
  obtain ⟨f0, f1, f2, f3, f4, f5, f6, f7⟩ := id hR.2.2.2.2.2.2.2.2.1
  obtain ⟨n0, n1, n2, n3⟩ := id hR.2.2.2.2.2.2.2.2.2
  have g174 := hR.2.2.2.2.2.2.1.1
  have g176 := hR.2.2.2.2.2.2.2.1.1
  have bad2 : y.toInt < 0 ∨ 8 < y.toInt → V K 0 0 mX12_about 24 (kla [.ref 140, .int (nI e), .int y]) [.ref 140] G Q := fun z => by
    refine V_iconst (v := nI 2) rfl (by decide) ?_
    refine V_goto rfl ?_
    exact t29 2 (by decide) (by decide) (by unfold aAb; rw [if_neg (by omega), if_pos z])
  refine V_iload_n rfl (by rfl) ?_
  refine V_if_ltZ rfl rfl (fun z => bad2 (Or.inl z)) (fun z1 => ?_)
  refine V_iload_n rfl (by rfl) ?_
  refine V_bipush (v := 8) rfl (by decide) ?_
  refine V_icmp_leZ (b := 8) rfl rfl (by decide) (fun z2 => ?_) (fun z => bad2 (Or.inr (by omega)))
  clear bad2 t29
  obtain ⟨hc1, hc2⟩ := i32_n (x := y) (by omega)
  obtain ⟨m, hm⟩ : ∃ m, m = y.toInt.toNat := ⟨_, rfl⟩
  have U0 : aAb S (e : Int) y.toInt = (0, abV (S.1 e) m, S) := by
    unfold aAb
    rw [if_neg (by omega), if_neg (by omega), hm]
    rfl
  rw [← hm] at hc1
  rw [U0] at hq
  have hm8 : m ≤ 8 := by omega
  clear U0 z1 z2 hm
  subst hc1
  refine V_iconst (v := nI 0) rfl (by decide) ?_
  refine V_pf_th rfl rfl rfl (by repeat (first | exact hup_eq | assumption | refine Eq.trans (hup_ne (by first | assumption | exact Ne.symm (by assumption) | decide | omega)) ?_)) ?_
  refine V_aload_n rfl (by first | rfl | assumption) ?_
  refine V_getf rfl rfl rfl (by repeat (first | exact hup_eq | assumption | refine Eq.trans (hup_ne (by first | assumption | exact Ne.symm (by assumption) | decide | omega)) ?_)) (by first | rfl | assumption) ?_
  refine V_if_le rfl (fun _ => ?_) (fun z => absurd (by decide) z)
  refine V_iload_n rfl (by rfl) ?_
  have hm9 : m = 0 ∨ m = 1 ∨ m = 2 ∨ m = 3 ∨ m = 4 ∨ m = 5 ∨ m = 6 ∨ m = 7 ∨ m = 8 := by omega
  have hqf := hq (hup G 140 (MO (nI 0) (nI (tpe S).length) (nI (lou S).length) hs ps rs)) (FP.rf.hup (by decide)) h.ob
  rcases hm9 with rfl | rfl | rfl | rfl | rfl | rfl | rfl | rfl | rfl
  · refine V_tableIn (o := 46) (g := 88) rfl (by decide) (by decide) rfl (by decide) ?_
    refine V_aload_n rfl (by first | rfl | assumption) ?_
    refine V_getf rfl rfl rfl (by repeat (first | exact hup_eq | assumption | refine Eq.trans (hup_ne (by first | assumption | exact Ne.symm (by assumption) | decide | omega)) ?_)) (by first | rfl | assumption) ?_
    refine V_iload_n rfl (by first | rfl | assumption) ?_
    refine V_zaldZ rfl (by repeat (first | exact hup_eq | assumption | refine Eq.trans (hup_ne (by first | assumption | exact Ne.symm (by assumption) | decide | omega)) ?_)) rfl (by first | omega | decide) (by first | omega | decide) ?_
    refine V_if_eqB rfl (fun z => ?_) (fun z => ?_)
    · have : fl (S.1 e) 0 = true := by cases h : fl (S.1 e) 0; rw [h] at z; cases z; rfl
      refine V_iconst (v := abV (S.1 e) 0) rfl (by show (1 : Int32) = bI (fl (S.1 e) 0); rw [this]; rfl) ?_
      exact V_iret rfl rfl hqf
    · have : fl (S.1 e) 0 = false := by cases h : fl (S.1 e) 0; rfl; rw [h] at z; cases z
      refine V_iconst (v := abV (S.1 e) 0) rfl (by show (0 : Int32) = bI (fl (S.1 e) 0); rw [this]; rfl) ?_
      refine V_goto rfl ?_
      exact V_iret rfl rfl hqf
  · refine V_tableIn (o := 61) (g := 103) rfl (by decide) (by decide) rfl (by decide) ?_
    refine V_aload_n rfl (by first | rfl | assumption) ?_
    refine V_getf rfl rfl rfl (by repeat (first | exact hup_eq | assumption | refine Eq.trans (hup_ne (by first | assumption | exact Ne.symm (by assumption) | decide | omega)) ?_)) (by first | rfl | assumption) ?_
    refine V_iload_n rfl (by first | rfl | assumption) ?_
    refine V_ialdN rfl (by repeat (first | exact hup_eq | assumption | refine Eq.trans (hup_ne (by first | assumption | exact Ne.symm (by assumption) | decide | omega)) ?_)) rfl (by first | omega | decide) (by first | omega | decide) ?_
    exact V_iret rfl rfl hqf
  · refine V_tableIn (o := 68) (g := 110) rfl (by decide) (by decide) rfl (by decide) ?_
    refine V_aload_n rfl (by first | rfl | assumption) ?_
    refine V_getf rfl rfl rfl (by repeat (first | exact hup_eq | assumption | refine Eq.trans (hup_ne (by first | assumption | exact Ne.symm (by assumption) | decide | omega)) ?_)) (by first | rfl | assumption) ?_
    refine V_iload_n rfl (by first | rfl | assumption) ?_
    refine V_ialdN rfl (by repeat (first | exact hup_eq | assumption | refine Eq.trans (hup_ne (by first | assumption | exact Ne.symm (by assumption) | decide | omega)) ?_)) rfl (by first | omega | decide) (by first | omega | decide) ?_
    exact V_iret rfl rfl hqf
  · refine V_tableIn (o := 75) (g := 117) rfl (by decide) (by decide) rfl (by decide) ?_
    refine V_aload_n rfl (by first | rfl | assumption) ?_
    refine V_getf rfl rfl rfl (by repeat (first | exact hup_eq | assumption | refine Eq.trans (hup_ne (by first | assumption | exact Ne.symm (by assumption) | decide | omega)) ?_)) (by first | rfl | assumption) ?_
    refine V_iload_n rfl (by first | rfl | assumption) ?_
    refine V_ialdN rfl (by repeat (first | exact hup_eq | assumption | refine Eq.trans (hup_ne (by first | assumption | exact Ne.symm (by assumption) | decide | omega)) ?_)) rfl (by first | omega | decide) (by first | omega | decide) ?_
    exact V_iret rfl rfl hqf
  · refine V_tableIn (o := 82) (g := 124) rfl (by decide) (by decide) rfl (by decide) ?_
    refine V_aload_n rfl (by first | rfl | assumption) ?_
    refine V_getf rfl rfl rfl (by repeat (first | exact hup_eq | assumption | refine Eq.trans (hup_ne (by first | assumption | exact Ne.symm (by assumption) | decide | omega)) ?_)) (by first | rfl | assumption) ?_
    refine V_iload_n rfl (by first | rfl | assumption) ?_
    refine V_ialdN rfl (by repeat (first | exact hup_eq | assumption | refine Eq.trans (hup_ne (by first | assumption | exact Ne.symm (by assumption) | decide | omega)) ?_)) rfl (by first | omega | decide) (by first | omega | decide) ?_
    exact V_iret rfl rfl hqf
  · refine V_tableIn (o := 89) (g := 131) rfl (by decide) (by decide) rfl (by decide) ?_
    refine V_aload_n rfl (by first | rfl | assumption) ?_
    refine V_getf rfl rfl rfl (by repeat (first | exact hup_eq | assumption | refine Eq.trans (hup_ne (by first | assumption | exact Ne.symm (by assumption) | decide | omega)) ?_)) (by first | rfl | assumption) ?_
    refine V_iload_n rfl (by first | rfl | assumption) ?_
    refine V_ialdN rfl (by repeat (first | exact hup_eq | assumption | refine Eq.trans (hup_ne (by first | assumption | exact Ne.symm (by assumption) | decide | omega)) ?_)) rfl (by first | omega | decide) (by first | omega | decide) ?_
    exact V_iret rfl rfl hqf
  · refine V_tableIn (o := 96) (g := 138) rfl (by decide) (by decide) rfl (by decide) ?_
    refine V_aload_n rfl (by first | rfl | assumption) ?_
    refine V_getf rfl rfl rfl (by repeat (first | exact hup_eq | assumption | refine Eq.trans (hup_ne (by first | assumption | exact Ne.symm (by assumption) | decide | omega)) ?_)) (by first | rfl | assumption) ?_
    refine V_iload_n rfl (by first | rfl | assumption) ?_
    refine V_zaldZ rfl (by repeat (first | exact hup_eq | assumption | refine Eq.trans (hup_ne (by first | assumption | exact Ne.symm (by assumption) | decide | omega)) ?_)) rfl (by first | omega | decide) (by first | omega | decide) ?_
    refine V_if_eqB rfl (fun z => ?_) (fun z => ?_)
    · refine V_iconst (v := abV (S.1 e) 6) rfl (by show (0 : Int32) = bI (fl (S.1 e) 2); rw [z]; rfl) ?_
      exact V_iret rfl rfl hqf
    · refine V_iconst (v := abV (S.1 e) 6) rfl (by show (1 : Int32) = bI (fl (S.1 e) 2); rw [z]; rfl) ?_
      refine V_goto rfl ?_
      exact V_iret rfl rfl hqf
  · refine V_tableIn (o := 111) (g := 153) rfl (by decide) (by decide) rfl (by decide) ?_
    refine V_aload_n rfl (by first | rfl | assumption) ?_
    refine V_getf rfl rfl rfl (by repeat (first | exact hup_eq | assumption | refine Eq.trans (hup_ne (by first | assumption | exact Ne.symm (by assumption) | decide | omega)) ?_)) (by first | rfl | assumption) ?_
    refine V_iload_n rfl (by first | rfl | assumption) ?_
    refine V_zaldZ rfl (by repeat (first | exact hup_eq | assumption | refine Eq.trans (hup_ne (by first | assumption | exact Ne.symm (by assumption) | decide | omega)) ?_)) rfl (by first | omega | decide) (by first | omega | decide) ?_
    refine V_if_eqB rfl (fun z => ?_) (fun z => ?_)
    · refine V_iconst (v := abV (S.1 e) 7) rfl (by show (0 : Int32) = bI (fl (S.1 e) 3); rw [z]; rfl) ?_
      exact V_iret rfl rfl hqf
    · refine V_iconst (v := abV (S.1 e) 7) rfl (by show (1 : Int32) = bI (fl (S.1 e) 3); rw [z]; rfl) ?_
      refine V_goto rfl ?_
      exact V_iret rfl rfl hqf
  · refine V_tableOut (g := 168) rfl (Or.inr (by decide)) (by decide) ?_
    refine V_aload_n rfl (by first | rfl | assumption) ?_
    refine V_getf rfl rfl rfl (by repeat (first | exact hup_eq | assumption | refine Eq.trans (hup_ne (by first | assumption | exact Ne.symm (by assumption) | decide | omega)) ?_)) (by first | rfl | assumption) ?_
    refine V_iload_n rfl (by first | rfl | assumption) ?_
    refine V_ialdJ rfl (by repeat (first | exact hup_eq | assumption | refine Eq.trans (hup_ne (by first | assumption | exact Ne.symm (by assumption) | decide | omega)) ?_)) rfl (by first | omega | decide) (by first | omega | decide) ?_
    exact V_iret rfl rfl hqf
theorem c_misP {x y : Int32} (g140 : G.1 140 = some (MO th ta os hs ps rs)) (hR : RM T S G) (hq1 : ∀ e k : Nat, e < 2 → x = nI e → y = nI k → x.toInt = (e : Int) → y.toInt = (k : Int) → k < (wi (S.1 e)).length → Q (.inl (some (.int (bI true)))) G) (hq2 : (¬ (x.toInt = 0 ∨ x.toInt = 1) ∨ ((x.toInt = 0 ∨ x.toInt = 1) ∧ (y.toInt < 0 ∨ ((wi (S.1 x.toInt.toNat)).length : Int) ≤ y.toInt))) → Q (.inl (some (.int (bI false)))) G) : C K 0 0 mX12_isPacket [.ref 140, .int x, .int y] G Q := by
  obtain ⟨w176, z, w, g177, g178, hwb, hz⟩ := id hR.2.2.2.2.2.2.2.1
  refine C_of okX12_isPacket (Nat.le_of_ble_eq_true rfl) ?_
  have bad : (¬ (x.toInt = 0 ∨ x.toInt = 1) ∨ ((x.toInt = 0 ∨ x.toInt = 1) ∧ (y.toInt < 0 ∨ ((wi (S.1 x.toInt.toNat)).length : Int) ≤ y.toInt))) → V K 0 0 mX12_isPacket 27 (kla [.ref 140, .int x, .int y]) [] G Q := fun z => by
    refine V_iconst (v := bI false) rfl (by decide) ?_
    exact V_zret rfl rfl (bI_01 _) (hq2 z)
  refine V_iload_n rfl (by rfl) ?_
  refine V_if_ltZ rfl rfl (fun z => bad (by omega)) (fun z1 => ?_)
  refine V_iload_n rfl (by rfl) ?_
  refine V_iconst (v := 2) rfl (by decide) ?_
  refine V_icmp_geZ (b := 2) rfl rfl (by decide) (fun z => bad (by omega)) (fun z2 => ?_)
  obtain ⟨e, he, hxe, hxi⟩ := e_of z1 (by omega)
  refine V_iload_n rfl (by rfl) ?_
  refine V_if_ltZ rfl rfl (fun z => bad (Or.inr ⟨by omega, Or.inl z⟩)) (fun z3 => ?_)
  have hz12 := (hz e he).1
  have ht : x.toInt.toNat = e := by omega
  rw [ht] at bad
  subst hxe
  refine V_iload_n rfl (by rfl) ?_
  refine V_aload_n rfl (by first | rfl | assumption) ?_
  refine V_getf rfl rfl rfl (by repeat (first | exact hup_eq | assumption | refine Eq.trans (hup_ne (by first | assumption | exact Ne.symm (by assumption) | decide | omega)) ?_)) (by first | rfl | assumption) ?_
  refine V_iload_n rfl (by first | rfl | assumption) ?_
  refine V_ialdN rfl (by repeat (first | exact hup_eq | assumption | refine Eq.trans (hup_ne (by first | assumption | exact Ne.symm (by assumption) | decide | omega)) ?_)) rfl (by first | omega | decide) (by first | omega | decide) ?_
  refine V_icmp_geZ (b := ((wi (S.1 e)).length : Int)) rfl rfl (nI_toInt (by omega)) (fun z => bad (Or.inr ⟨by omega, Or.inr z⟩)) (fun z4 => ?_)
  refine V_iconst (v := bI true) rfl (by decide) ?_
  refine V_goto rfl ?_
  obtain ⟨hc1, hc2⟩ := i32_n (x := y) (by omega)
  exact V_zret rfl rfl (bI_01 _) (hq1 e y.toInt.toNat he rfl hc1 hxi (by omega) (by omega))
theorem c_Mpacket {x y u : Int32} (h : RMA T S th G) (hq : ∀ G', FP PM G G' → RMA T (aPk S x.toInt y.toInt u.toInt).2.2 (nI (aPk S x.toInt y.toInt u.toInt).1) G' → Q (.inl (some (.int (aPk S x.toInt y.toInt u.toInt).2.1))) G') : C K 0 0 mX12_packet [.ref 140, .int x, .int y, .int u] G Q := by
  obtain ⟨hR, ht, ho, hs, ps, rs, g140⟩ := id h
  obtain ⟨w176, z, w, g177, g178, hwb, hz⟩ := id hR.2.2.2.2.2.2.2.1
  refine C_of okX12_packet (Nat.le_of_ble_eq_true rfl) ?_
  refine V_aload_n rfl (by rfl) ?_
  refine V_aload_n rfl (by rfl) ?_
  refine V_iload_n rfl (by rfl) ?_
  refine V_iload_n rfl (by rfl) ?_
  refine V_callV (M' := mX12_isPacket) (mc := 0) (ms := 0) (bc' := 0) (bs' := 0) rfl cw_X12_377 iv_X12_isPacket (by repeat (first | exact hup_eq | assumption | refine Eq.trans (hup_ne (by first | assumption | exact Ne.symm (by assumption) | decide | omega)) ?_)) rfl rfl (Nat.le_of_ble_eq_true rfl) ⟨Nat.le_of_ble_eq_true rfl, Nat.le_of_ble_eq_true rfl⟩ ⟨Nat.le_of_ble_eq_true rfl, Nat.le_of_ble_eq_true rfl⟩ (As := [.int x, .int y]) (c_misP (S := S) (T := T) (Q := fun o G1 => (o = .inl (some (.int (bI true))) ∧ (∃ e k : Nat, e < 2 ∧ x = nI e ∧ y = nI k ∧ x.toInt = (e : Int) ∧ y.toInt = (k : Int) ∧ k < (wi (S.1 e)).length) ∧ G1 = G) ∨ (o = .inl (some (.int (bI false))) ∧ (¬ (x.toInt = 0 ∨ x.toInt = 1) ∨ ((x.toInt = 0 ∨ x.toInt = 1) ∧ (y.toInt < 0 ∨ ((wi (S.1 x.toInt.toNat)).length : Int) ≤ y.toInt))) ∧ G1 = G)) g140 hR (fun e k h1 h2 h3 h4 h5 h6 => Or.inl ⟨rfl, ⟨e, k, h1, h2, h3, h4, h5, h6⟩, rfl⟩) (fun h1 => Or.inr ⟨rfl, h1, rfl⟩)) (fun o G1 h => ?_) (fun E G' h => by rcases h with h | h <;> cases h.1)
  rcases h with ⟨h9, ⟨e, k, he, hxe, hyk, hxi, hyi, hk⟩, h8⟩ | ⟨h9, hbad, h8⟩
  · cases h9
    rw [h8]
    clear h8
    rw [hxi, hyi] at hq
    clear hxi hyi
    subst hxe hyk
    have hz12 := (hz e he).1
    obtain ⟨z1, z2, z3⟩ := (hz e he).2 k hk
    obtain ⟨l, hl⟩ : ∃ l, l = pkA S e k := ⟨_, rfl⟩
    rw [← hl] at z1 z2 z3
    obtain ⟨L, hL⟩ : ∃ L, L = l.length := ⟨_, rfl⟩
    rw [← hL] at z1 z2 z3
    have U0 : aPk S (e : Int) (k : Int) u.toInt = if u.toInt < -1 ∨ (L : Int) ≤ u.toInt then (2, 0, S) else (0, if u.toInt = -1 then nI L else nI (gD l u.toInt.toNat), S) := by
      unfold aPk
      rw [if_neg (by omega)]
      have hk2 : ¬ ((k : Int) < 0 ∨ ((wi (S.1 (e : Int).toNat)).length : Int) ≤ (k : Int)) := by
        show ¬ ((k : Int) < 0 ∨ ((wi (S.1 e)).length : Int) ≤ (k : Int))
        omega
      rw [if_neg hk2, hL, hl]
      rfl
    rw [U0] at hq
    clear U0
    refine V_if_eqB rfl (fun x => Bool.noConfusion x) (fun _ => ?_)
    refine V_iconst (v := nI 0) rfl (by decide) ?_
    refine V_goto rfl ?_
    refine V_pf_th rfl rfl rfl (by repeat (first | exact hup_eq | assumption | refine Eq.trans (hup_ne (by first | assumption | exact Ne.symm (by assumption) | decide | omega)) ?_)) ?_
    refine V_aload_n rfl (by first | rfl | assumption) ?_
    refine V_getf rfl rfl rfl (by repeat (first | exact hup_eq | assumption | refine Eq.trans (hup_ne (by first | assumption | exact Ne.symm (by assumption) | decide | omega)) ?_)) (by first | rfl | assumption) ?_
    refine V_if_le rfl (fun _ => ?_) (fun z => absurd (by decide) z)
    refine V_aload_n rfl (by first | rfl | assumption) ?_
    refine V_getf rfl rfl rfl (by repeat (first | exact hup_eq | assumption | refine Eq.trans (hup_ne (by first | assumption | exact Ne.symm (by assumption) | decide | omega)) ?_)) (by first | rfl | assumption) ?_
    refine V_bipush (v := nI 12) rfl (by decide) ?_
    refine V_iload_n rfl (by first | rfl | assumption) ?_
    refine V_imulN rfl ?_
    refine V_iload_n rfl (by first | rfl | assumption) ?_
    refine V_iaddN rfl ?_
    refine V_ialdN rfl (by repeat (first | exact hup_eq | assumption | refine Eq.trans (hup_ne (by first | assumption | exact Ne.symm (by assumption) | decide | omega)) ?_)) rfl (by omega) (by decide) ?_
    rw [z1]
    have fin : ∀ t : Nat, RMA T S (nI t) (hup G 140 (MO (nI t) (nI (tpe S).length) (nI (lou S).length) hs ps rs)) := fun t => RMA.ob ⟨hR, ht, ho, hs, ps, rs, g140⟩
    refine V_istore rfl (by decide) ?_
    have bad : u.toInt < -1 ∨ (L : Int) ≤ u.toInt → V K 0 0 mX12_packet 52 (ls1 (kla [.ref 140, .int (nI e), .int (nI k), .int u]) 4 (.int (nI L))) [.ref 140] (hup G 140 (MO (nI 0) (nI (tpe S).length) (nI (lou S).length) hs ps rs)) Q := fun q => by
      rw [if_pos q] at hq
      refine V_iconst (v := nI 2) rfl (by decide) ?_
      refine V_goto rfl ?_
      refine V_pf_th rfl rfl rfl (by repeat (first | exact hup_eq | assumption | refine Eq.trans (hup_ne (by first | assumption | exact Ne.symm (by assumption) | decide | omega)) ?_)) ?_
      refine V_aload_n rfl (by first | rfl | assumption) ?_
      refine V_getf rfl rfl rfl (by repeat (first | exact hup_eq | assumption | refine Eq.trans (hup_ne (by first | assumption | exact Ne.symm (by assumption) | decide | omega)) ?_)) (by first | rfl | assumption) ?_
      refine V_if_le rfl (fun z => absurd z (by decide)) (fun _ => ?_)
      rw [hup_hup]
      refine V_iconst (v := 0) rfl (by decide) ?_
      refine V_goto rfl ?_
      exact V_iret rfl rfl (hq _ (FP.rf.hup (by decide)) (fin 2))
    refine V_aload_n rfl (by rfl) ?_
    refine V_iload_n rfl (by rfl) ?_
    refine V_iconst (v := -1) rfl (by decide) ?_
    refine V_icmp_ltZ (b := -1) rfl rfl (by decide) (fun q => bad (Or.inl q)) (fun q1 => ?_)
    refine V_iload_n rfl (by rfl) ?_
    refine V_iload rfl (by rfl) ?_
    refine V_icmp_ltZ (b := (L : Int)) rfl rfl (nI_toInt (by omega)) (fun q2 => ?_) (fun q => bad (Or.inr (by omega)))
    clear bad
    rw [if_neg (by omega)] at hq
    refine V_iconst (v := nI 0) rfl (by decide) ?_
    refine V_pf_th rfl rfl rfl (by repeat (first | exact hup_eq | assumption | refine Eq.trans (hup_ne (by first | assumption | exact Ne.symm (by assumption) | decide | omega)) ?_)) ?_
    refine V_aload_n rfl (by first | rfl | assumption) ?_
    refine V_getf rfl rfl rfl (by repeat (first | exact hup_eq | assumption | refine Eq.trans (hup_ne (by first | assumption | exact Ne.symm (by assumption) | decide | omega)) ?_)) (by first | rfl | assumption) ?_
    refine V_if_le rfl (fun _ => ?_) (fun z => absurd (by decide) z)
    rw [hup_hup]
    refine V_iload_n rfl (by rfl) ?_
    refine V_if_geZ rfl rfl (fun q3 => ?_) (fun q3 => ?_)
    · rw [if_neg (by omega)] at hq
      obtain ⟨hc1, hc2⟩ := i32_n (x := u) (by omega)
      obtain ⟨m, hm⟩ : ∃ m, m = u.toInt.toNat := ⟨_, rfl⟩
      rw [← hm] at hc1 hq
      have hmL : m < L := by omega
      clear q1 q2 q3 hm
      subst hc1
      have hb := hwb (240 * (12 * e + k) + m)
      refine V_aload_n rfl (by first | rfl | assumption) ?_
      refine V_getf rfl rfl rfl (by repeat (first | exact hup_eq | assumption | refine Eq.trans (hup_ne (by first | assumption | exact Ne.symm (by assumption) | decide | omega)) ?_)) (by first | rfl | assumption) ?_
      refine V_sipush (v := nI 240) rfl (by decide) ?_
      refine V_bipush (v := nI 12) rfl (by decide) ?_
      refine V_iload_n rfl (by first | rfl | assumption) ?_
      refine V_imulN rfl ?_
      refine V_iload_n rfl (by first | rfl | assumption) ?_
      refine V_iaddN rfl ?_
      refine V_imulN rfl ?_
      refine V_iload_n rfl (by first | rfl | assumption) ?_
      refine V_iaddN rfl ?_
      refine V_baldB rfl (by repeat (first | exact hup_eq | assumption | refine Eq.trans (hup_ne (by first | assumption | exact Ne.symm (by assumption) | decide | omega)) ?_)) rfl (by first | omega | decide) (by first | omega | decide) ?_
      refine V_sipush (v := nI 255) rfl (by decide) ?_
      refine V_bandB rfl (by first | assumption | solve_by_elim | exact Nat.mod_lt _ (by decide) | omega) ?_
      rw [z3 m hmL]
      exact V_iret rfl rfl (hq _ (FP.rf.hup (by decide)) (fin 0))
    · rw [if_pos (by omega)] at hq
      refine V_iload rfl (by first | rfl | assumption) ?_
      refine V_goto rfl ?_
      exact V_iret rfl rfl (hq _ (FP.rf.hup (by decide)) (fin 0))
  · cases h9
    rw [h8]
    have U : aPk S x.toInt y.toInt u.toInt = (1, 0, S) := by
      unfold aPk
      rcases hbad with q | ⟨q1, q2⟩
      · rw [if_pos q]
      · rw [if_neg (by omega), if_pos q2]
    rw [U] at hq
    refine V_if_eqB rfl (fun _ => ?_) (fun x => Bool.noConfusion x)
    refine V_iconst (v := nI 1) rfl (by decide) ?_
    refine V_pf_th rfl rfl rfl (by repeat (first | exact hup_eq | assumption | refine Eq.trans (hup_ne (by first | assumption | exact Ne.symm (by assumption) | decide | omega)) ?_)) ?_
    refine V_aload_n rfl (by first | rfl | assumption) ?_
    refine V_getf rfl rfl rfl (by repeat (first | exact hup_eq | assumption | refine Eq.trans (hup_ne (by first | assumption | exact Ne.symm (by assumption) | decide | omega)) ?_)) (by first | rfl | assumption) ?_
    refine V_if_le rfl (fun z => absurd z (by decide)) (fun _ => ?_)
    refine V_iconst (v := 0) rfl (by decide) ?_
    exact V_iret rfl rfl (hq _ (FP.rf.hup (by decide)) (RMA.ob ⟨hR, ht, ho, hs, ps, rs, g140⟩))
end MApi6
